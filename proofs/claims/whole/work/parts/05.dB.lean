theorem dX4_init_0 : decode cX4_init 0 = .ok (.aload_n 0, 1) := by decide +kernel
theorem dX4_init_1 : decode cX4_init 1 = .ok (.invokespecial 3, 3) := by decide +kernel
theorem dX4_init_4 : decode cX4_init 4 = .ok (.aload_n 0, 1) := by decide +kernel
theorem dX4_init_5 : decode cX4_init 5 = .ok (.new 9, 3) := by decide +kernel
theorem dX4_init_8 : decode cX4_init 8 = .ok (.dup, 1) := by decide +kernel
theorem dX4_init_9 : decode cX4_init 9 = .ok (.invokespecial 11, 3) := by decide +kernel
theorem dX4_init_12 : decode cX4_init 12 = .ok (.putfield 12, 3) := by decide +kernel
theorem dX4_init_15 : decode cX4_init 15 = .ok (.aload_n 0, 1) := by decide +kernel
theorem dX4_init_16 : decode cX4_init 16 = .ok (.new 9, 3) := by decide +kernel
theorem dX4_init_19 : decode cX4_init 19 = .ok (.dup, 1) := by decide +kernel
theorem dX4_init_20 : decode cX4_init 20 = .ok (.invokespecial 11, 3) := by decide +kernel
theorem dX4_init_23 : decode cX4_init 23 = .ok (.putfield 16, 3) := by decide +kernel
theorem dX4_init_26 : decode cX4_init 26 = .ok (.aload_n 0, 1) := by decide +kernel
theorem dX4_init_27 : decode cX4_init 27 = .ok (.new 9, 3) := by decide +kernel
theorem dX4_init_30 : decode cX4_init 30 = .ok (.dup, 1) := by decide +kernel
theorem dX4_init_31 : decode cX4_init 31 = .ok (.invokespecial 11, 3) := by decide +kernel
theorem dX4_init_34 : decode cX4_init 34 = .ok (.putfield 19, 3) := by decide +kernel
theorem dX4_init_37 : decode cX4_init 37 = .ok (.aload_n 0, 1) := by decide +kernel
theorem dX4_init_38 : decode cX4_init 38 = .ok (.new 9, 3) := by decide +kernel
theorem dX4_init_41 : decode cX4_init 41 = .ok (.dup, 1) := by decide +kernel
theorem dX4_init_42 : decode cX4_init 42 = .ok (.invokespecial 11, 3) := by decide +kernel
theorem dX4_init_45 : decode cX4_init 45 = .ok (.putfield 22, 3) := by decide +kernel
theorem dX4_init_48 : decode cX4_init 48 = .ok (.aload_n 0, 1) := by decide +kernel
theorem dX4_init_49 : decode cX4_init 49 = .ok (.new 25, 3) := by decide +kernel
theorem dX4_init_52 : decode cX4_init 52 = .ok (.dup, 1) := by decide +kernel
theorem dX4_init_53 : decode cX4_init 53 = .ok (.invokespecial 27, 3) := by decide +kernel
theorem dX4_init_56 : decode cX4_init 56 = .ok (.putfield 28, 3) := by decide +kernel
theorem dX4_init_59 : decode cX4_init 59 = .ok (.aload_n 0, 1) := by decide +kernel
theorem dX4_init_60 : decode cX4_init 60 = .ok (.iconst 4, 1) := by decide +kernel
theorem dX4_init_61 : decode cX4_init 61 = .ok (.anewarray 32, 3) := by decide +kernel
theorem dX4_init_64 : decode cX4_init 64 = .ok (.putfield 34, 3) := by decide +kernel
theorem dX4_init_67 : decode cX4_init 67 = .ok (.aload_n 0, 1) := by decide +kernel
theorem dX4_init_68 : decode cX4_init 68 = .ok (.bipush 7, 2) := by decide +kernel
theorem dX4_init_70 : decode cX4_init 70 = .ok (.newarray .int, 2) := by decide +kernel
theorem dX4_init_72 : decode cX4_init 72 = .ok (.putfield 38, 3) := by decide +kernel
theorem dX4_init_75 : decode cX4_init 75 = .ok (.aload_n 0, 1) := by decide +kernel
theorem dX4_init_76 : decode cX4_init 76 = .ok (.iconst 0, 1) := by decide +kernel
theorem dX4_init_77 : decode cX4_init 77 = .ok (.putfield 42, 3) := by decide +kernel
theorem dX4_init_80 : decode cX4_init 80 = .ok (.iconst 0, 1) := by decide +kernel
theorem dX4_init_81 : decode cX4_init 81 = .ok (.istore_n 1, 1) := by decide +kernel
theorem dX4_init_82 : decode cX4_init 82 = .ok (.iload_n 1, 1) := by decide +kernel
theorem dX4_init_83 : decode cX4_init 83 = .ok (.iconst 4, 1) := by decide +kernel
theorem dX4_init_84 : decode cX4_init 84 = .ok (.if_icmp .ge 22, 3) := by decide +kernel
theorem dX4_init_87 : decode cX4_init 87 = .ok (.aload_n 0, 1) := by decide +kernel
theorem dX4_init_88 : decode cX4_init 88 = .ok (.getfield 34, 3) := by decide +kernel
theorem dX4_init_91 : decode cX4_init 91 = .ok (.iload_n 1, 1) := by decide +kernel
theorem dX4_init_92 : decode cX4_init 92 = .ok (.new 32, 3) := by decide +kernel
theorem dX4_init_95 : decode cX4_init 95 = .ok (.dup, 1) := by decide +kernel
theorem dX4_init_96 : decode cX4_init 96 = .ok (.invokespecial 46, 3) := by decide +kernel
theorem dX4_init_99 : decode cX4_init 99 = .ok (.aastore, 1) := by decide +kernel
theorem dX4_init_100 : decode cX4_init 100 = .ok (.iinc 1 1, 3) := by decide +kernel
theorem dX4_init_103 : decode cX4_init 103 = .ok (.goto (-21), 3) := by decide +kernel
theorem dX4_init_106 : decode cX4_init 106 = .ok (.return_, 1) := by decide +kernel
theorem dX4_falls_0 : decode cX4_falls 0 = .ok (.iload_n 1, 1) := by decide +kernel
theorem dX4_falls_1 : decode cX4_falls 1 = .ok (.iconst 0, 1) := by decide +kernel
theorem dX4_falls_2 : decode cX4_falls 2 = .ok (.bipush 20, 2) := by decide +kernel
theorem dX4_falls_4 : decode cX4_falls 4 = .ok (.invokestatic 47, 3) := by decide +kernel
theorem dX4_falls_7 : decode cX4_falls 7 = .ok (.ifCond .ne 10, 3) := by decide +kernel
theorem dX4_falls_10 : decode cX4_falls 10 = .ok (.aload_n 0, 1) := by decide +kernel
theorem dX4_falls_11 : decode cX4_falls 11 = .ok (.ldc 51, 2) := by decide +kernel
theorem dX4_falls_13 : decode cX4_falls 13 = .ok (.invokevirtual 52, 3) := by decide +kernel
theorem dX4_falls_16 : decode cX4_falls 16 = .ok (.ireturn, 1) := by decide +kernel
theorem dX4_falls_17 : decode cX4_falls 17 = .ok (.aload_n 0, 1) := by decide +kernel
theorem dX4_falls_18 : decode cX4_falls 18 = .ok (.getfield 12, 3) := by decide +kernel
theorem dX4_falls_21 : decode cX4_falls 21 = .ok (.getfield 56, 3) := by decide +kernel
theorem dX4_falls_24 : decode cX4_falls 24 = .ok (.istore_n 2, 1) := by decide +kernel
theorem dX4_falls_25 : decode cX4_falls 25 = .ok (.aload_n 0, 1) := by decide +kernel
theorem dX4_falls_26 : decode cX4_falls 26 = .ok (.getfield 12, 3) := by decide +kernel
theorem dX4_falls_29 : decode cX4_falls 29 = .ok (.iload_n 1, 1) := by decide +kernel
theorem dX4_falls_30 : decode cX4_falls 30 = .ok (.putfield 56, 3) := by decide +kernel
theorem dX4_falls_33 : decode cX4_falls 33 = .ok (.iload_n 2, 1) := by decide +kernel
theorem dX4_falls_34 : decode cX4_falls 34 = .ok (.ireturn, 1) := by decide +kernel
theorem dX4_room_0 : decode cX4_room 0 = .ok (.iload_n 1, 1) := by decide +kernel
theorem dX4_room_1 : decode cX4_room 1 = .ok (.invokestatic 60, 3) := by decide +kernel
theorem dX4_room_4 : decode cX4_room 4 = .ok (.ifCond .eq 12, 3) := by decide +kernel
theorem dX4_room_7 : decode cX4_room 7 = .ok (.iload_n 2, 1) := by decide +kernel
theorem dX4_room_8 : decode cX4_room 8 = .ok (.iconst 0, 1) := by decide +kernel
theorem dX4_room_9 : decode cX4_room 9 = .ok (.iconst 1, 1) := by decide +kernel
theorem dX4_room_10 : decode cX4_room 10 = .ok (.invokestatic 47, 3) := by decide +kernel
theorem dX4_room_13 : decode cX4_room 13 = .ok (.ifCond .ne 10, 3) := by decide +kernel
theorem dX4_room_16 : decode cX4_room 16 = .ok (.aload_n 0, 1) := by decide +kernel
theorem dX4_room_17 : decode cX4_room 17 = .ok (.ldc 51, 2) := by decide +kernel
theorem dX4_room_19 : decode cX4_room 19 = .ok (.invokevirtual 52, 3) := by decide +kernel
theorem dX4_room_22 : decode cX4_room 22 = .ok (.ireturn, 1) := by decide +kernel
theorem dX4_room_23 : decode cX4_room 23 = .ok (.iload_n 3, 1) := by decide +kernel
theorem dX4_room_24 : decode cX4_room 24 = .ok (.iconst 0, 1) := by decide +kernel
theorem dX4_room_25 : decode cX4_room 25 = .ok (.iload_n 2, 1) := by decide +kernel
theorem dX4_room_26 : decode cX4_room 26 = .ok (.ifCond .ne 8, 3) := by decide +kernel
theorem dX4_room_29 : decode cX4_room 29 = .ok (.bipush 99, 2) := by decide +kernel
theorem dX4_room_31 : decode cX4_room 31 = .ok (.goto 6, 3) := by decide +kernel
theorem dX4_room_34 : decode cX4_room 34 = .ok (.sipush 1023, 3) := by decide +kernel
theorem dX4_room_37 : decode cX4_room 37 = .ok (.invokestatic 47, 3) := by decide +kernel
theorem dX4_room_40 : decode cX4_room 40 = .ok (.ifCond .ne 10, 3) := by decide +kernel
theorem dX4_room_43 : decode cX4_room 43 = .ok (.aload_n 0, 1) := by decide +kernel
theorem dX4_room_44 : decode cX4_room 44 = .ok (.ldc 51, 2) := by decide +kernel
theorem dX4_room_46 : decode cX4_room 46 = .ok (.invokevirtual 52, 3) := by decide +kernel
theorem dX4_room_49 : decode cX4_room 49 = .ok (.ireturn, 1) := by decide +kernel
theorem dX4_room_50 : decode cX4_room 50 = .ok (.iload_n 2, 1) := by decide +kernel
theorem dX4_room_51 : decode cX4_room 51 = .ok (.ifCond .ne 13, 3) := by decide +kernel
theorem dX4_room_54 : decode cX4_room 54 = .ok (.aload_n 0, 1) := by decide +kernel
theorem dX4_room_55 : decode cX4_room 55 = .ok (.getfield 12, 3) := by decide +kernel
theorem dX4_room_58 : decode cX4_room 58 = .ok (.getfield 64, 3) := by decide +kernel
theorem dX4_room_61 : decode cX4_room 61 = .ok (.goto 10, 3) := by decide +kernel
theorem dX4_room_64 : decode cX4_room 64 = .ok (.aload_n 0, 1) := by decide +kernel
theorem dX4_room_65 : decode cX4_room 65 = .ok (.getfield 12, 3) := by decide +kernel
theorem dX4_room_68 : decode cX4_room 68 = .ok (.getfield 67, 3) := by decide +kernel
theorem dX4_room_71 : decode cX4_room 71 = .ok (.astore 4, 2) := by decide +kernel
theorem dX4_room_73 : decode cX4_room 73 = .ok (.aload 4, 2) := by decide +kernel
theorem dX4_room_75 : decode cX4_room 75 = .ok (.iload_n 1, 1) := by decide +kernel
theorem dX4_room_76 : decode cX4_room 76 = .ok (.iaload, 1) := by decide +kernel
theorem dX4_room_77 : decode cX4_room 77 = .ok (.istore 5, 2) := by decide +kernel
theorem dX4_room_79 : decode cX4_room 79 = .ok (.aload 4, 2) := by decide +kernel
theorem dX4_room_81 : decode cX4_room 81 = .ok (.iload_n 1, 1) := by decide +kernel
theorem dX4_room_82 : decode cX4_room 82 = .ok (.iload_n 3, 1) := by decide +kernel
theorem dX4_room_83 : decode cX4_room 83 = .ok (.iastore, 1) := by decide +kernel
theorem dX4_room_84 : decode cX4_room 84 = .ok (.iload 5, 2) := by decide +kernel
theorem dX4_room_86 : decode cX4_room 86 = .ok (.ireturn, 1) := by decide +kernel
theorem dX4_roomOf_0 : decode cX4_roomOf 0 = .ok (.iload_n 1, 1) := by decide +kernel
theorem dX4_roomOf_1 : decode cX4_roomOf 1 = .ok (.invokestatic 60, 3) := by decide +kernel
theorem dX4_roomOf_4 : decode cX4_roomOf 4 = .ok (.ifCond .ne 10, 3) := by decide +kernel
theorem dX4_roomOf_7 : decode cX4_roomOf 7 = .ok (.aload_n 0, 1) := by decide +kernel
theorem dX4_roomOf_8 : decode cX4_roomOf 8 = .ok (.ldc 51, 2) := by decide +kernel
theorem dX4_roomOf_10 : decode cX4_roomOf 10 = .ok (.invokevirtual 52, 3) := by decide +kernel
theorem dX4_roomOf_13 : decode cX4_roomOf 13 = .ok (.ireturn, 1) := by decide +kernel
theorem dX4_roomOf_14 : decode cX4_roomOf 14 = .ok (.iload_n 2, 1) := by decide +kernel
theorem dX4_roomOf_15 : decode cX4_roomOf 15 = .ok (.tableswitch 54 0 2 #[25, 35, 45], 25) := by decide +kernel
theorem dX4_roomOf_40 : decode cX4_roomOf 40 = .ok (.aload_n 0, 1) := by decide +kernel
theorem dX4_roomOf_41 : decode cX4_roomOf 41 = .ok (.getfield 12, 3) := by decide +kernel
theorem dX4_roomOf_44 : decode cX4_roomOf 44 = .ok (.getfield 64, 3) := by decide +kernel
theorem dX4_roomOf_47 : decode cX4_roomOf 47 = .ok (.iload_n 1, 1) := by decide +kernel
theorem dX4_roomOf_48 : decode cX4_roomOf 48 = .ok (.iaload, 1) := by decide +kernel
theorem dX4_roomOf_49 : decode cX4_roomOf 49 = .ok (.ireturn, 1) := by decide +kernel
theorem dX4_roomOf_50 : decode cX4_roomOf 50 = .ok (.aload_n 0, 1) := by decide +kernel
theorem dX4_roomOf_51 : decode cX4_roomOf 51 = .ok (.getfield 12, 3) := by decide +kernel
theorem dX4_roomOf_54 : decode cX4_roomOf 54 = .ok (.getfield 67, 3) := by decide +kernel
theorem dX4_roomOf_57 : decode cX4_roomOf 57 = .ok (.iload_n 1, 1) := by decide +kernel
theorem dX4_roomOf_58 : decode cX4_roomOf 58 = .ok (.iaload, 1) := by decide +kernel
theorem dX4_roomOf_59 : decode cX4_roomOf 59 = .ok (.ireturn, 1) := by decide +kernel
theorem dX4_roomOf_60 : decode cX4_roomOf 60 = .ok (.aload_n 0, 1) := by decide +kernel
theorem dX4_roomOf_61 : decode cX4_roomOf 61 = .ok (.getfield 12, 3) := by decide +kernel
theorem dX4_roomOf_64 : decode cX4_roomOf 64 = .ok (.iload_n 1, 1) := by decide +kernel
theorem dX4_roomOf_65 : decode cX4_roomOf 65 = .ok (.invokevirtual 70, 3) := by decide +kernel
theorem dX4_roomOf_68 : decode cX4_roomOf 68 = .ok (.ireturn, 1) := by decide +kernel
theorem dX4_roomOf_69 : decode cX4_roomOf 69 = .ok (.aload_n 0, 1) := by decide +kernel
theorem dX4_roomOf_70 : decode cX4_roomOf 70 = .ok (.ldc 51, 2) := by decide +kernel
theorem dX4_roomOf_72 : decode cX4_roomOf 72 = .ok (.invokevirtual 52, 3) := by decide +kernel
theorem dX4_roomOf_75 : decode cX4_roomOf 75 = .ok (.ireturn, 1) := by decide +kernel
theorem dX4_now_0 : decode cX4_now 0 = .ok (.iload_n 1, 1) := by decide +kernel
theorem dX4_now_1 : decode cX4_now 1 = .ok (.tableswitch 87 0 5 #[39, 47, 55, 63, 71, 79], 39) := by decide +kernel
theorem dX4_now_40 : decode cX4_now 40 = .ok (.aload_n 0, 1) := by decide +kernel
theorem dX4_now_41 : decode cX4_now 41 = .ok (.getfield 12, 3) := by decide +kernel
theorem dX4_now_44 : decode cX4_now 44 = .ok (.getfield 73, 3) := by decide +kernel
theorem dX4_now_47 : decode cX4_now 47 = .ok (.ireturn, 1) := by decide +kernel
theorem dX4_now_48 : decode cX4_now 48 = .ok (.aload_n 0, 1) := by decide +kernel
theorem dX4_now_49 : decode cX4_now 49 = .ok (.getfield 12, 3) := by decide +kernel
theorem dX4_now_52 : decode cX4_now 52 = .ok (.getfield 56, 3) := by decide +kernel
theorem dX4_now_55 : decode cX4_now 55 = .ok (.ireturn, 1) := by decide +kernel
theorem dX4_now_56 : decode cX4_now 56 = .ok (.aload_n 0, 1) := by decide +kernel
theorem dX4_now_57 : decode cX4_now 57 = .ok (.getfield 12, 3) := by decide +kernel
theorem dX4_now_60 : decode cX4_now 60 = .ok (.invokevirtual 76, 3) := by decide +kernel
theorem dX4_now_63 : decode cX4_now 63 = .ok (.ireturn, 1) := by decide +kernel
theorem dX4_now_64 : decode cX4_now 64 = .ok (.aload_n 0, 1) := by decide +kernel
theorem dX4_now_65 : decode cX4_now 65 = .ok (.getfield 12, 3) := by decide +kernel
theorem dX4_now_68 : decode cX4_now 68 = .ok (.invokevirtual 80, 3) := by decide +kernel
theorem dX4_now_71 : decode cX4_now 71 = .ok (.ireturn, 1) := by decide +kernel
theorem dX4_now_72 : decode cX4_now 72 = .ok (.aload_n 0, 1) := by decide +kernel
theorem dX4_now_73 : decode cX4_now 73 = .ok (.getfield 12, 3) := by decide +kernel
theorem dX4_now_76 : decode cX4_now 76 = .ok (.invokevirtual 83, 3) := by decide +kernel
theorem dX4_now_79 : decode cX4_now 79 = .ok (.ireturn, 1) := by decide +kernel
theorem dX4_now_80 : decode cX4_now 80 = .ok (.aload_n 0, 1) := by decide +kernel
theorem dX4_now_81 : decode cX4_now 81 = .ok (.getfield 12, 3) := by decide +kernel
theorem dX4_now_84 : decode cX4_now 84 = .ok (.invokevirtual 86, 3) := by decide +kernel
theorem dX4_now_87 : decode cX4_now 87 = .ok (.ireturn, 1) := by decide +kernel
theorem dX4_now_88 : decode cX4_now 88 = .ok (.aload_n 0, 1) := by decide +kernel
theorem dX4_now_89 : decode cX4_now 89 = .ok (.ldc 51, 2) := by decide +kernel
theorem dX4_now_91 : decode cX4_now 91 = .ok (.invokevirtual 52, 3) := by decide +kernel
theorem dX4_now_94 : decode cX4_now 94 = .ok (.ireturn, 1) := by decide +kernel
theorem dX4_duster_0 : decode cX4_duster 0 = .ok (.iload_n 1, 1) := by decide +kernel
theorem dX4_duster_1 : decode cX4_duster 1 = .ok (.invokestatic 89, 3) := by decide +kernel
theorem dX4_duster_4 : decode cX4_duster 4 = .ok (.ifCond .ne 10, 3) := by decide +kernel
theorem dX4_duster_7 : decode cX4_duster 7 = .ok (.aload_n 0, 1) := by decide +kernel
theorem dX4_duster_8 : decode cX4_duster 8 = .ok (.ldc 51, 2) := by decide +kernel
theorem dX4_duster_10 : decode cX4_duster 10 = .ok (.invokevirtual 52, 3) := by decide +kernel
theorem dX4_duster_13 : decode cX4_duster 13 = .ok (.ireturn, 1) := by decide +kernel
theorem dX4_duster_14 : decode cX4_duster 14 = .ok (.aload_n 0, 1) := by decide +kernel
theorem dX4_duster_15 : decode cX4_duster 15 = .ok (.getfield 12, 3) := by decide +kernel
theorem dX4_duster_18 : decode cX4_duster 18 = .ok (.getfield 92, 3) := by decide +kernel
theorem dX4_duster_21 : decode cX4_duster 21 = .ok (.bipush 8, 2) := by decide +kernel
theorem dX4_duster_23 : decode cX4_duster 23 = .ok (.if_icmp .lt 10, 3) := by decide +kernel
theorem dX4_duster_26 : decode cX4_duster 26 = .ok (.aload_n 0, 1) := by decide +kernel
theorem dX4_duster_27 : decode cX4_duster 27 = .ok (.ldc 95, 2) := by decide +kernel
theorem dX4_duster_29 : decode cX4_duster 29 = .ok (.invokevirtual 52, 3) := by decide +kernel
theorem dX4_duster_32 : decode cX4_duster 32 = .ok (.ireturn, 1) := by decide +kernel
theorem dX4_duster_33 : decode cX4_duster 33 = .ok (.aload_n 0, 1) := by decide +kernel
theorem dX4_duster_34 : decode cX4_duster 34 = .ok (.getfield 12, 3) := by decide +kernel
theorem dX4_duster_37 : decode cX4_duster 37 = .ok (.iload_n 1, 1) := by decide +kernel
theorem dX4_duster_38 : decode cX4_duster 38 = .ok (.invokevirtual 96, 3) := by decide +kernel
theorem dX4_duster_41 : decode cX4_duster 41 = .ok (.ireturn, 1) := by decide +kernel
theorem dX4_of_0 : decode cX4_of 0 = .ok (.aload_n 0, 1) := by decide +kernel
theorem dX4_of_1 : decode cX4_of 1 = .ok (.iload_n 1, 1) := by decide +kernel
theorem dX4_of_2 : decode cX4_of 2 = .ok (.invokevirtual 99, 3) := by decide +kernel
theorem dX4_of_5 : decode cX4_of 5 = .ok (.ifCond .ne 10, 3) := by decide +kernel
theorem dX4_of_8 : decode cX4_of 8 = .ok (.aload_n 0, 1) := by decide +kernel
theorem dX4_of_9 : decode cX4_of 9 = .ok (.ldc 51, 2) := by decide +kernel
theorem dX4_of_11 : decode cX4_of 11 = .ok (.invokevirtual 52, 3) := by decide +kernel
theorem dX4_of_14 : decode cX4_of 14 = .ok (.ireturn, 1) := by decide +kernel
theorem dX4_of_15 : decode cX4_of 15 = .ok (.aload_n 0, 1) := by decide +kernel
theorem dX4_of_16 : decode cX4_of 16 = .ok (.getfield 12, 3) := by decide +kernel
theorem dX4_of_19 : decode cX4_of 19 = .ok (.getfield 102, 3) := by decide +kernel
theorem dX4_of_22 : decode cX4_of 22 = .ok (.iload_n 1, 1) := by decide +kernel
theorem dX4_of_23 : decode cX4_of 23 = .ok (.iaload, 1) := by decide +kernel
theorem dX4_of_24 : decode cX4_of 24 = .ok (.istore_n 3, 1) := by decide +kernel
theorem dX4_of_25 : decode cX4_of 25 = .ok (.aload_n 0, 1) := by decide +kernel
theorem dX4_of_26 : decode cX4_of 26 = .ok (.getfield 12, 3) := by decide +kernel
theorem dX4_of_29 : decode cX4_of 29 = .ok (.getfield 105, 3) := by decide +kernel
theorem dX4_of_32 : decode cX4_of 32 = .ok (.iload_n 1, 1) := by decide +kernel
theorem dX4_of_33 : decode cX4_of 33 = .ok (.iaload, 1) := by decide +kernel
theorem dX4_of_34 : decode cX4_of 34 = .ok (.istore 4, 2) := by decide +kernel
theorem dX4_of_36 : decode cX4_of 36 = .ok (.iload_n 2, 1) := by decide +kernel
theorem dX4_of_37 : decode cX4_of 37 = .ok (.tableswitch 128 0 8 #[51, 53, 63, 66, 76, 85, 92, 99, 106], 51) := by decide +kernel
theorem dX4_of_88 : decode cX4_of 88 = .ok (.iload_n 3, 1) := by decide +kernel
theorem dX4_of_89 : decode cX4_of 89 = .ok (.ireturn, 1) := by decide +kernel
theorem dX4_of_90 : decode cX4_of 90 = .ok (.aload_n 0, 1) := by decide +kernel
theorem dX4_of_91 : decode cX4_of 91 = .ok (.getfield 12, 3) := by decide +kernel
theorem dX4_of_94 : decode cX4_of 94 = .ok (.getfield 108, 3) := by decide +kernel
theorem dX4_of_97 : decode cX4_of 97 = .ok (.iload_n 1, 1) := by decide +kernel
theorem dX4_of_98 : decode cX4_of 98 = .ok (.iaload, 1) := by decide +kernel
theorem dX4_of_99 : decode cX4_of 99 = .ok (.ireturn, 1) := by decide +kernel
theorem dX4_of_100 : decode cX4_of 100 = .ok (.iload 4, 2) := by decide +kernel
theorem dX4_of_102 : decode cX4_of 102 = .ok (.ireturn, 1) := by decide +kernel
theorem dX4_of_103 : decode cX4_of 103 = .ok (.aload_n 0, 1) := by decide +kernel
theorem dX4_of_104 : decode cX4_of 104 = .ok (.getfield 12, 3) := by decide +kernel
theorem dX4_of_107 : decode cX4_of 107 = .ok (.getfield 111, 3) := by decide +kernel
theorem dX4_of_110 : decode cX4_of 110 = .ok (.iload_n 1, 1) := by decide +kernel
theorem dX4_of_111 : decode cX4_of 111 = .ok (.iaload, 1) := by decide +kernel
theorem dX4_of_112 : decode cX4_of 112 = .ok (.ireturn, 1) := by decide +kernel
theorem dX4_of_113 : decode cX4_of 113 = .ok (.aload_n 0, 1) := by decide +kernel
theorem dX4_of_114 : decode cX4_of 114 = .ok (.getfield 12, 3) := by decide +kernel
theorem dX4_of_117 : decode cX4_of 117 = .ok (.iload_n 1, 1) := by decide +kernel
theorem dX4_of_118 : decode cX4_of 118 = .ok (.invokevirtual 114, 3) := by decide +kernel
theorem dX4_of_121 : decode cX4_of 121 = .ok (.ireturn, 1) := by decide +kernel
theorem dX4_of_122 : decode cX4_of 122 = .ok (.iload_n 3, 1) := by decide +kernel
theorem dX4_of_123 : decode cX4_of 123 = .ok (.iload 4, 2) := by decide +kernel
theorem dX4_of_125 : decode cX4_of 125 = .ok (.invokestatic 117, 3) := by decide +kernel
theorem dX4_of_128 : decode cX4_of 128 = .ok (.ireturn, 1) := by decide +kernel
theorem dX4_of_129 : decode cX4_of 129 = .ok (.iload_n 3, 1) := by decide +kernel
theorem dX4_of_130 : decode cX4_of 130 = .ok (.iload 4, 2) := by decide +kernel
theorem dX4_of_132 : decode cX4_of 132 = .ok (.invokestatic 123, 3) := by decide +kernel
theorem dX4_of_135 : decode cX4_of 135 = .ok (.ireturn, 1) := by decide +kernel
theorem dX4_of_136 : decode cX4_of 136 = .ok (.iload_n 3, 1) := by decide +kernel
theorem dX4_of_137 : decode cX4_of 137 = .ok (.iload 4, 2) := by decide +kernel
theorem dX4_of_139 : decode cX4_of 139 = .ok (.invokestatic 126, 3) := by decide +kernel
theorem dX4_of_142 : decode cX4_of 142 = .ok (.ireturn, 1) := by decide +kernel
theorem dX4_of_143 : decode cX4_of 143 = .ok (.iload_n 3, 1) := by decide +kernel
theorem dX4_of_144 : decode cX4_of 144 = .ok (.aload_n 0, 1) := by decide +kernel
theorem dX4_of_145 : decode cX4_of 145 = .ok (.getfield 12, 3) := by decide +kernel
theorem dX4_of_148 : decode cX4_of 148 = .ok (.getfield 108, 3) := by decide +kernel
theorem dX4_of_151 : decode cX4_of 151 = .ok (.iload_n 1, 1) := by decide +kernel
theorem dX4_of_152 : decode cX4_of 152 = .ok (.iaload, 1) := by decide +kernel
theorem dX4_of_153 : decode cX4_of 153 = .ok (.invokestatic 129, 3) := by decide +kernel
theorem dX4_of_156 : decode cX4_of 156 = .ok (.ifCond .eq 7, 3) := by decide +kernel
theorem dX4_of_159 : decode cX4_of 159 = .ok (.iconst 1, 1) := by decide +kernel
theorem dX4_of_160 : decode cX4_of 160 = .ok (.goto 4, 3) := by decide +kernel
theorem dX4_of_163 : decode cX4_of 163 = .ok (.iconst 0, 1) := by decide +kernel
theorem dX4_of_164 : decode cX4_of 164 = .ok (.ireturn, 1) := by decide +kernel
theorem dX4_of_165 : decode cX4_of 165 = .ok (.aload_n 0, 1) := by decide +kernel
theorem dX4_of_166 : decode cX4_of 166 = .ok (.ldc 51, 2) := by decide +kernel
theorem dX4_of_168 : decode cX4_of 168 = .ok (.invokevirtual 52, 3) := by decide +kernel
theorem dX4_of_171 : decode cX4_of 171 = .ok (.ireturn, 1) := by decide +kernel
theorem dX4_set_0 : decode cX4_set 0 = .ok (.aload_n 0, 1) := by decide +kernel
theorem dX4_set_1 : decode cX4_set 1 = .ok (.iload_n 1, 1) := by decide +kernel
theorem dX4_set_2 : decode cX4_set 2 = .ok (.invokevirtual 99, 3) := by decide +kernel
theorem dX4_set_5 : decode cX4_set 5 = .ok (.ifCond .eq 12, 3) := by decide +kernel
theorem dX4_set_8 : decode cX4_set 8 = .ok (.iload_n 2, 1) := by decide +kernel
theorem dX4_set_9 : decode cX4_set 9 = .ok (.iconst 1, 1) := by decide +kernel
theorem dX4_set_10 : decode cX4_set 10 = .ok (.iconst 3, 1) := by decide +kernel
theorem dX4_set_11 : decode cX4_set 11 = .ok (.invokestatic 47, 3) := by decide +kernel
theorem dX4_set_14 : decode cX4_set 14 = .ok (.ifCond .ne 10, 3) := by decide +kernel
theorem dX4_set_17 : decode cX4_set 17 = .ok (.aload_n 0, 1) := by decide +kernel
theorem dX4_set_18 : decode cX4_set 18 = .ok (.ldc 51, 2) := by decide +kernel
theorem dX4_set_20 : decode cX4_set 20 = .ok (.invokevirtual 52, 3) := by decide +kernel
theorem dX4_set_23 : decode cX4_set 23 = .ok (.ireturn, 1) := by decide +kernel
theorem dX4_set_24 : decode cX4_set 24 = .ok (.iload_n 2, 1) := by decide +kernel
theorem dX4_set_25 : decode cX4_set 25 = .ok (.iconst 1, 1) := by decide +kernel
theorem dX4_set_26 : decode cX4_set 26 = .ok (.if_icmp .ne 9, 3) := by decide +kernel
theorem dX4_set_29 : decode cX4_set 29 = .ok (.sipush 1023, 3) := by decide +kernel
theorem dX4_set_32 : decode cX4_set 32 = .ok (.goto 15, 3) := by decide +kernel
theorem dX4_set_35 : decode cX4_set 35 = .ok (.iload_n 2, 1) := by decide +kernel
theorem dX4_set_36 : decode cX4_set 36 = .ok (.iconst 2, 1) := by decide +kernel
theorem dX4_set_37 : decode cX4_set 37 = .ok (.if_icmp .ne 8, 3) := by decide +kernel
theorem dX4_set_40 : decode cX4_set 40 = .ok (.bipush 99, 2) := by decide +kernel
theorem dX4_set_42 : decode cX4_set 42 = .ok (.goto 5, 3) := by decide +kernel
theorem dX4_set_45 : decode cX4_set 45 = .ok (.bipush 7, 2) := by decide +kernel
theorem dX4_set_47 : decode cX4_set 47 = .ok (.istore 4, 2) := by decide +kernel
theorem dX4_set_49 : decode cX4_set 49 = .ok (.iload_n 3, 1) := by decide +kernel
theorem dX4_set_50 : decode cX4_set 50 = .ok (.iconst 0, 1) := by decide +kernel
theorem dX4_set_51 : decode cX4_set 51 = .ok (.iload 4, 2) := by decide +kernel
theorem dX4_set_53 : decode cX4_set 53 = .ok (.invokestatic 47, 3) := by decide +kernel
theorem dX4_set_56 : decode cX4_set 56 = .ok (.ifCond .ne 10, 3) := by decide +kernel
theorem dX4_set_59 : decode cX4_set 59 = .ok (.aload_n 0, 1) := by decide +kernel
theorem dX4_set_60 : decode cX4_set 60 = .ok (.ldc 51, 2) := by decide +kernel
theorem dX4_set_62 : decode cX4_set 62 = .ok (.invokevirtual 52, 3) := by decide +kernel
theorem dX4_set_65 : decode cX4_set 65 = .ok (.ireturn, 1) := by decide +kernel
theorem dX4_set_66 : decode cX4_set 66 = .ok (.iload_n 2, 1) := by decide +kernel
theorem dX4_set_67 : decode cX4_set 67 = .ok (.iconst 1, 1) := by decide +kernel
theorem dX4_set_68 : decode cX4_set 68 = .ok (.if_icmp .ne 13, 3) := by decide +kernel
theorem dX4_set_71 : decode cX4_set 71 = .ok (.aload_n 0, 1) := by decide +kernel
theorem dX4_set_72 : decode cX4_set 72 = .ok (.getfield 12, 3) := by decide +kernel
theorem dX4_set_75 : decode cX4_set 75 = .ok (.getfield 108, 3) := by decide +kernel
theorem dX4_set_78 : decode cX4_set 78 = .ok (.goto 25, 3) := by decide +kernel
theorem dX4_set_81 : decode cX4_set 81 = .ok (.iload_n 2, 1) := by decide +kernel
theorem dX4_set_82 : decode cX4_set 82 = .ok (.iconst 2, 1) := by decide +kernel
theorem dX4_set_83 : decode cX4_set 83 = .ok (.if_icmp .ne 13, 3) := by decide +kernel
theorem dX4_set_86 : decode cX4_set 86 = .ok (.aload_n 0, 1) := by decide +kernel
theorem dX4_set_87 : decode cX4_set 87 = .ok (.getfield 12, 3) := by decide +kernel
theorem dX4_set_90 : decode cX4_set 90 = .ok (.getfield 105, 3) := by decide +kernel
theorem dX4_set_93 : decode cX4_set 93 = .ok (.goto 10, 3) := by decide +kernel
theorem dX4_set_96 : decode cX4_set 96 = .ok (.aload_n 0, 1) := by decide +kernel
theorem dX4_set_97 : decode cX4_set 97 = .ok (.getfield 12, 3) := by decide +kernel
theorem dX4_set_100 : decode cX4_set 100 = .ok (.getfield 111, 3) := by decide +kernel
theorem dX4_set_103 : decode cX4_set 103 = .ok (.astore 5, 2) := by decide +kernel
theorem dX4_set_105 : decode cX4_set 105 = .ok (.aload 5, 2) := by decide +kernel
theorem dX4_set_107 : decode cX4_set 107 = .ok (.iload_n 1, 1) := by decide +kernel
theorem dX4_set_108 : decode cX4_set 108 = .ok (.iaload, 1) := by decide +kernel
theorem dX4_set_109 : decode cX4_set 109 = .ok (.istore 6, 2) := by decide +kernel
theorem dX4_set_111 : decode cX4_set 111 = .ok (.aload 5, 2) := by decide +kernel
theorem dX4_set_113 : decode cX4_set 113 = .ok (.iload_n 1, 1) := by decide +kernel
theorem dX4_set_114 : decode cX4_set 114 = .ok (.iload_n 3, 1) := by decide +kernel
theorem dX4_set_115 : decode cX4_set 115 = .ok (.iastore, 1) := by decide +kernel
theorem dX4_set_116 : decode cX4_set 116 = .ok (.iload 6, 2) := by decide +kernel
theorem dX4_set_118 : decode cX4_set 118 = .ok (.ireturn, 1) := by decide +kernel
theorem dX4_turn_0 : decode cX4_turn 0 = .ok (.aload_n 0, 1) := by decide +kernel
theorem dX4_turn_1 : decode cX4_turn 1 = .ok (.iload_n 1, 1) := by decide +kernel
theorem dX4_turn_2 : decode cX4_turn 2 = .ok (.invokevirtual 99, 3) := by decide +kernel
theorem dX4_turn_5 : decode cX4_turn 5 = .ok (.ifCond .eq 10, 3) := by decide +kernel
theorem dX4_turn_8 : decode cX4_turn 8 = .ok (.iload_n 2, 1) := by decide +kernel
theorem dX4_turn_9 : decode cX4_turn 9 = .ok (.invokestatic 89, 3) := by decide +kernel
theorem dX4_turn_12 : decode cX4_turn 12 = .ok (.ifCond .ne 10, 3) := by decide +kernel
theorem dX4_turn_15 : decode cX4_turn 15 = .ok (.aload_n 0, 1) := by decide +kernel
theorem dX4_turn_16 : decode cX4_turn 16 = .ok (.ldc 51, 2) := by decide +kernel
theorem dX4_turn_18 : decode cX4_turn 18 = .ok (.invokevirtual 52, 3) := by decide +kernel
theorem dX4_turn_21 : decode cX4_turn 21 = .ok (.ireturn, 1) := by decide +kernel
theorem dX4_turn_22 : decode cX4_turn 22 = .ok (.aload_n 0, 1) := by decide +kernel
theorem dX4_turn_23 : decode cX4_turn 23 = .ok (.getfield 12, 3) := by decide +kernel
theorem dX4_turn_26 : decode cX4_turn 26 = .ok (.getfield 102, 3) := by decide +kernel
theorem dX4_turn_29 : decode cX4_turn 29 = .ok (.iload_n 1, 1) := by decide +kernel
theorem dX4_turn_30 : decode cX4_turn 30 = .ok (.iaload, 1) := by decide +kernel
theorem dX4_turn_31 : decode cX4_turn 31 = .ok (.istore_n 3, 1) := by decide +kernel
theorem dX4_turn_32 : decode cX4_turn 32 = .ok (.aload_n 0, 1) := by decide +kernel
theorem dX4_turn_33 : decode cX4_turn 33 = .ok (.getfield 12, 3) := by decide +kernel
theorem dX4_turn_36 : decode cX4_turn 36 = .ok (.getfield 102, 3) := by decide +kernel
theorem dX4_turn_39 : decode cX4_turn 39 = .ok (.iload_n 1, 1) := by decide +kernel
theorem dX4_turn_40 : decode cX4_turn 40 = .ok (.iload_n 2, 1) := by decide +kernel
theorem dX4_turn_41 : decode cX4_turn 41 = .ok (.iastore, 1) := by decide +kernel
theorem dX4_turn_42 : decode cX4_turn 42 = .ok (.iload_n 3, 1) := by decide +kernel
theorem dX4_turn_43 : decode cX4_turn 43 = .ok (.ireturn, 1) := by decide +kernel
theorem dX4_as_0 : decode cX4_as 0 = .ok (.aload_n 0, 1) := by decide +kernel
theorem dX4_as_1 : decode cX4_as 1 = .ok (.iload_n 1, 1) := by decide +kernel
theorem dX4_as_2 : decode cX4_as 2 = .ok (.invokevirtual 99, 3) := by decide +kernel
theorem dX4_as_5 : decode cX4_as 5 = .ok (.ifCond .eq 10, 3) := by decide +kernel
theorem dX4_as_8 : decode cX4_as 8 = .ok (.iload_n 2, 1) := by decide +kernel
theorem dX4_as_9 : decode cX4_as 9 = .ok (.invokestatic 89, 3) := by decide +kernel
theorem dX4_as_12 : decode cX4_as 12 = .ok (.ifCond .ne 10, 3) := by decide +kernel
theorem dX4_as_15 : decode cX4_as 15 = .ok (.aload_n 0, 1) := by decide +kernel
theorem dX4_as_16 : decode cX4_as 16 = .ok (.ldc 51, 2) := by decide +kernel
theorem dX4_as_18 : decode cX4_as 18 = .ok (.invokevirtual 52, 3) := by decide +kernel
theorem dX4_as_21 : decode cX4_as 21 = .ok (.ireturn, 1) := by decide +kernel
theorem dX4_as_22 : decode cX4_as 22 = .ok (.aload_n 0, 1) := by decide +kernel
theorem dX4_as_23 : decode cX4_as 23 = .ok (.getfield 12, 3) := by decide +kernel
theorem dX4_as_26 : decode cX4_as 26 = .ok (.getfield 102, 3) := by decide +kernel
theorem dX4_as_29 : decode cX4_as 29 = .ok (.iload_n 1, 1) := by decide +kernel
theorem dX4_as_30 : decode cX4_as 30 = .ok (.iaload, 1) := by decide +kernel
theorem dX4_as_31 : decode cX4_as 31 = .ok (.iload_n 2, 1) := by decide +kernel
theorem dX4_as_32 : decode cX4_as 32 = .ok (.invokestatic 133, 3) := by decide +kernel
theorem dX4_as_35 : decode cX4_as 35 = .ok (.ifCond .ne 10, 3) := by decide +kernel
theorem dX4_as_38 : decode cX4_as 38 = .ok (.aload_n 0, 1) := by decide +kernel
theorem dX4_as_39 : decode cX4_as 39 = .ok (.ldc 136, 2) := by decide +kernel
theorem dX4_as_41 : decode cX4_as 41 = .ok (.invokevirtual 52, 3) := by decide +kernel
theorem dX4_as_44 : decode cX4_as 44 = .ok (.ireturn, 1) := by decide +kernel
theorem dX4_as_45 : decode cX4_as 45 = .ok (.aload_n 0, 1) := by decide +kernel
theorem dX4_as_46 : decode cX4_as 46 = .ok (.getfield 12, 3) := by decide +kernel
theorem dX4_as_49 : decode cX4_as 49 = .ok (.getfield 105, 3) := by decide +kernel
theorem dX4_as_52 : decode cX4_as 52 = .ok (.iload_n 1, 1) := by decide +kernel
theorem dX4_as_53 : decode cX4_as 53 = .ok (.iaload, 1) := by decide +kernel
theorem dX4_as_54 : decode cX4_as 54 = .ok (.ireturn, 1) := by decide +kernel
theorem dX4_through_0 : decode cX4_through 0 = .ok (.aload_n 0, 1) := by decide +kernel
theorem dX4_through_1 : decode cX4_through 1 = .ok (.iload_n 1, 1) := by decide +kernel
theorem dX4_through_2 : decode cX4_through 2 = .ok (.invokevirtual 99, 3) := by decide +kernel
theorem dX4_through_5 : decode cX4_through 5 = .ok (.ifCond .eq 10, 3) := by decide +kernel
theorem dX4_through_8 : decode cX4_through 8 = .ok (.iload_n 2, 1) := by decide +kernel
theorem dX4_through_9 : decode cX4_through 9 = .ok (.invokestatic 60, 3) := by decide +kernel
theorem dX4_through_12 : decode cX4_through 12 = .ok (.ifCond .ne 10, 3) := by decide +kernel
theorem dX4_through_15 : decode cX4_through 15 = .ok (.aload_n 0, 1) := by decide +kernel
theorem dX4_through_16 : decode cX4_through 16 = .ok (.ldc 51, 2) := by decide +kernel
theorem dX4_through_18 : decode cX4_through 18 = .ok (.invokevirtual 52, 3) := by decide +kernel
theorem dX4_through_21 : decode cX4_through 21 = .ok (.ireturn, 1) := by decide +kernel
theorem dX4_through_22 : decode cX4_through 22 = .ok (.aload_n 0, 1) := by decide +kernel
theorem dX4_through_23 : decode cX4_through 23 = .ok (.getfield 12, 3) := by decide +kernel
theorem dX4_through_26 : decode cX4_through 26 = .ok (.iload_n 1, 1) := by decide +kernel
theorem dX4_through_27 : decode cX4_through 27 = .ok (.iload_n 2, 1) := by decide +kernel
theorem dX4_through_28 : decode cX4_through 28 = .ok (.invokevirtual 137, 3) := by decide +kernel
theorem dX4_through_31 : decode cX4_through 31 = .ok (.ireturn, 1) := by decide +kernel
theorem dX4_wash_0 : decode cX4_wash 0 = .ok (.aload_n 0, 1) := by decide +kernel
theorem dX4_wash_1 : decode cX4_wash 1 = .ok (.iload_n 1, 1) := by decide +kernel
theorem dX4_wash_2 : decode cX4_wash 2 = .ok (.invokevirtual 99, 3) := by decide +kernel
theorem dX4_wash_5 : decode cX4_wash 5 = .ok (.ifCond .ne 10, 3) := by decide +kernel
theorem dX4_wash_8 : decode cX4_wash 8 = .ok (.aload_n 0, 1) := by decide +kernel
theorem dX4_wash_9 : decode cX4_wash 9 = .ok (.ldc 51, 2) := by decide +kernel
theorem dX4_wash_11 : decode cX4_wash 11 = .ok (.invokevirtual 52, 3) := by decide +kernel
theorem dX4_wash_14 : decode cX4_wash 14 = .ok (.ireturn, 1) := by decide +kernel
theorem dX4_wash_15 : decode cX4_wash 15 = .ok (.aload_n 0, 1) := by decide +kernel
theorem dX4_wash_16 : decode cX4_wash 16 = .ok (.getfield 12, 3) := by decide +kernel
theorem dX4_wash_19 : decode cX4_wash 19 = .ok (.iload_n 1, 1) := by decide +kernel
theorem dX4_wash_20 : decode cX4_wash 20 = .ok (.invokevirtual 140, 3) := by decide +kernel
theorem dX4_wash_23 : decode cX4_wash 23 = .ok (.ireturn, 1) := by decide +kernel
theorem dX4_shake_0 : decode cX4_shake 0 = .ok (.aload_n 0, 1) := by decide +kernel
theorem dX4_shake_1 : decode cX4_shake 1 = .ok (.iload_n 1, 1) := by decide +kernel
theorem dX4_shake_2 : decode cX4_shake 2 = .ok (.invokevirtual 99, 3) := by decide +kernel
theorem dX4_shake_5 : decode cX4_shake 5 = .ok (.ifCond .ne 10, 3) := by decide +kernel
theorem dX4_shake_8 : decode cX4_shake 8 = .ok (.aload_n 0, 1) := by decide +kernel
theorem dX4_shake_9 : decode cX4_shake 9 = .ok (.ldc 51, 2) := by decide +kernel
theorem dX4_shake_11 : decode cX4_shake 11 = .ok (.invokevirtual 52, 3) := by decide +kernel
theorem dX4_shake_14 : decode cX4_shake 14 = .ok (.ireturn, 1) := by decide +kernel
theorem dX4_shake_15 : decode cX4_shake 15 = .ok (.aload_n 0, 1) := by decide +kernel
theorem dX4_shake_16 : decode cX4_shake 16 = .ok (.getfield 12, 3) := by decide +kernel
theorem dX4_shake_19 : decode cX4_shake 19 = .ok (.iload_n 1, 1) := by decide +kernel
theorem dX4_shake_20 : decode cX4_shake 20 = .ok (.invokevirtual 143, 3) := by decide +kernel
theorem dX4_shake_23 : decode cX4_shake 23 = .ok (.ireturn, 1) := by decide +kernel
theorem dX4_days_0 : decode cX4_days 0 = .ok (.iload_n 1, 1) := by decide +kernel
theorem dX4_days_1 : decode cX4_days 1 = .ok (.iconst 1, 1) := by decide +kernel
theorem dX4_days_2 : decode cX4_days 2 = .ok (.bipush 60, 2) := by decide +kernel
theorem dX4_days_4 : decode cX4_days 4 = .ok (.invokestatic 47, 3) := by decide +kernel
theorem dX4_days_7 : decode cX4_days 7 = .ok (.ifCond .ne 10, 3) := by decide +kernel
theorem dX4_days_10 : decode cX4_days 10 = .ok (.aload_n 0, 1) := by decide +kernel
theorem dX4_days_11 : decode cX4_days 11 = .ok (.ldc 51, 2) := by decide +kernel
theorem dX4_days_13 : decode cX4_days 13 = .ok (.invokevirtual 52, 3) := by decide +kernel
theorem dX4_days_16 : decode cX4_days 16 = .ok (.ireturn, 1) := by decide +kernel
theorem dX4_days_17 : decode cX4_days 17 = .ok (.aload_n 0, 1) := by decide +kernel
theorem dX4_days_18 : decode cX4_days 18 = .ok (.getfield 12, 3) := by decide +kernel
theorem dX4_days_21 : decode cX4_days 21 = .ok (.getfield 73, 3) := by decide +kernel
theorem dX4_days_24 : decode cX4_days 24 = .ok (.sipush 9999, 3) := by decide +kernel
theorem dX4_days_27 : decode cX4_days 27 = .ok (.iload_n 1, 1) := by decide +kernel
theorem dX4_days_28 : decode cX4_days 28 = .ok (.isub, 1) := by decide +kernel
theorem dX4_days_29 : decode cX4_days 29 = .ok (.if_icmp .le 10, 3) := by decide +kernel
theorem dX4_days_32 : decode cX4_days 32 = .ok (.aload_n 0, 1) := by decide +kernel
theorem dX4_days_33 : decode cX4_days 33 = .ok (.ldc 146, 2) := by decide +kernel
theorem dX4_days_35 : decode cX4_days 35 = .ok (.invokevirtual 52, 3) := by decide +kernel
theorem dX4_days_38 : decode cX4_days 38 = .ok (.ireturn, 1) := by decide +kernel
theorem dX4_days_39 : decode cX4_days 39 = .ok (.aload_n 0, 1) := by decide +kernel
theorem dX4_days_40 : decode cX4_days 40 = .ok (.getfield 12, 3) := by decide +kernel
theorem dX4_days_43 : decode cX4_days 43 = .ok (.iload_n 1, 1) := by decide +kernel
theorem dX4_days_44 : decode cX4_days 44 = .ok (.invokevirtual 147, 3) := by decide +kernel
theorem dX4_days_47 : decode cX4_days 47 = .ok (.aload_n 0, 1) := by decide +kernel
theorem dX4_days_48 : decode cX4_days 48 = .ok (.getfield 12, 3) := by decide +kernel
theorem dX4_days_51 : decode cX4_days 51 = .ok (.invokevirtual 76, 3) := by decide +kernel
theorem dX4_days_54 : decode cX4_days 54 = .ok (.ireturn, 1) := by decide +kernel
theorem dX4_on_0 : decode cX4_on 0 = .ok (.iload_n 1, 1) := by decide +kernel
theorem dX4_on_1 : decode cX4_on 1 = .ok (.invokestatic 60, 3) := by decide +kernel
theorem dX4_on_4 : decode cX4_on 4 = .ok (.ifCond .eq 22, 3) := by decide +kernel
theorem dX4_on_7 : decode cX4_on 7 = .ok (.iload_n 2, 1) := by decide +kernel
theorem dX4_on_8 : decode cX4_on 8 = .ok (.iconst 0, 1) := by decide +kernel
theorem dX4_on_9 : decode cX4_on 9 = .ok (.bipush 100, 2) := by decide +kernel
theorem dX4_on_11 : decode cX4_on 11 = .ok (.invokestatic 47, 3) := by decide +kernel
theorem dX4_on_14 : decode cX4_on 14 = .ok (.ifCond .eq 12, 3) := by decide +kernel
theorem dX4_on_17 : decode cX4_on 17 = .ok (.iload_n 3, 1) := by decide +kernel
theorem dX4_on_18 : decode cX4_on 18 = .ok (.iconst 0, 1) := by decide +kernel
theorem dX4_on_19 : decode cX4_on 19 = .ok (.iconst 1, 1) := by decide +kernel
theorem dX4_on_20 : decode cX4_on 20 = .ok (.invokestatic 47, 3) := by decide +kernel
theorem dX4_on_23 : decode cX4_on 23 = .ok (.ifCond .ne 10, 3) := by decide +kernel
theorem dX4_on_26 : decode cX4_on 26 = .ok (.aload_n 0, 1) := by decide +kernel
theorem dX4_on_27 : decode cX4_on 27 = .ok (.ldc 51, 2) := by decide +kernel
theorem dX4_on_29 : decode cX4_on 29 = .ok (.invokevirtual 52, 3) := by decide +kernel
theorem dX4_on_32 : decode cX4_on 32 = .ok (.ireturn, 1) := by decide +kernel
theorem dX4_on_33 : decode cX4_on 33 = .ok (.aload_n 0, 1) := by decide +kernel
theorem dX4_on_34 : decode cX4_on 34 = .ok (.iload_n 2, 1) := by decide +kernel
theorem dX4_on_35 : decode cX4_on 35 = .ok (.invokevirtual 151, 3) := by decide +kernel
theorem dX4_on_38 : decode cX4_on 38 = .ok (.iload_n 3, 1) := by decide +kernel
theorem dX4_on_39 : decode cX4_on 39 = .ok (.ifCond .ne 15, 3) := by decide +kernel
theorem dX4_on_42 : decode cX4_on 42 = .ok (.aload_n 0, 1) := by decide +kernel
theorem dX4_on_43 : decode cX4_on 43 = .ok (.getfield 19, 3) := by decide +kernel
theorem dX4_on_46 : decode cX4_on 46 = .ok (.getfield 64, 3) := by decide +kernel
theorem dX4_on_49 : decode cX4_on 49 = .ok (.iload_n 1, 1) := by decide +kernel
theorem dX4_on_50 : decode cX4_on 50 = .ok (.iaload, 1) := by decide +kernel
theorem dX4_on_51 : decode cX4_on 51 = .ok (.goto 12, 3) := by decide +kernel
theorem dX4_on_54 : decode cX4_on 54 = .ok (.aload_n 0, 1) := by decide +kernel
theorem dX4_on_55 : decode cX4_on 55 = .ok (.getfield 19, 3) := by decide +kernel
theorem dX4_on_58 : decode cX4_on 58 = .ok (.getfield 67, 3) := by decide +kernel
theorem dX4_on_61 : decode cX4_on 61 = .ok (.iload_n 1, 1) := by decide +kernel
theorem dX4_on_62 : decode cX4_on 62 = .ok (.iaload, 1) := by decide +kernel
theorem dX4_on_63 : decode cX4_on 63 = .ok (.ireturn, 1) := by decide +kernel
theorem dX4_then_0 : decode cX4_then 0 = .ok (.aload_n 0, 1) := by decide +kernel
theorem dX4_then_1 : decode cX4_then 1 = .ok (.iload_n 1, 1) := by decide +kernel
theorem dX4_then_2 : decode cX4_then 2 = .ok (.invokevirtual 99, 3) := by decide +kernel
theorem dX4_then_5 : decode cX4_then 5 = .ok (.ifCond .eq 22, 3) := by decide +kernel
theorem dX4_then_8 : decode cX4_then 8 = .ok (.iload_n 2, 1) := by decide +kernel
theorem dX4_then_9 : decode cX4_then 9 = .ok (.iconst 0, 1) := by decide +kernel
theorem dX4_then_10 : decode cX4_then 10 = .ok (.bipush 100, 2) := by decide +kernel
theorem dX4_then_12 : decode cX4_then 12 = .ok (.invokestatic 47, 3) := by decide +kernel
theorem dX4_then_15 : decode cX4_then 15 = .ok (.ifCond .eq 12, 3) := by decide +kernel
theorem dX4_then_18 : decode cX4_then 18 = .ok (.iload_n 3, 1) := by decide +kernel
theorem dX4_then_19 : decode cX4_then 19 = .ok (.iconst 0, 1) := by decide +kernel
theorem dX4_then_20 : decode cX4_then 20 = .ok (.iconst 1, 1) := by decide +kernel
theorem dX4_then_21 : decode cX4_then 21 = .ok (.invokestatic 47, 3) := by decide +kernel
theorem dX4_then_24 : decode cX4_then 24 = .ok (.ifCond .ne 10, 3) := by decide +kernel
theorem dX4_then_27 : decode cX4_then 27 = .ok (.aload_n 0, 1) := by decide +kernel
theorem dX4_then_28 : decode cX4_then 28 = .ok (.ldc 51, 2) := by decide +kernel
theorem dX4_then_30 : decode cX4_then 30 = .ok (.invokevirtual 52, 3) := by decide +kernel
theorem dX4_then_33 : decode cX4_then 33 = .ok (.ireturn, 1) := by decide +kernel
theorem dX4_then_34 : decode cX4_then 34 = .ok (.aload_n 0, 1) := by decide +kernel
theorem dX4_then_35 : decode cX4_then 35 = .ok (.iload_n 2, 1) := by decide +kernel
theorem dX4_then_36 : decode cX4_then 36 = .ok (.invokevirtual 151, 3) := by decide +kernel
theorem dX4_then_39 : decode cX4_then 39 = .ok (.iload_n 3, 1) := by decide +kernel
theorem dX4_then_40 : decode cX4_then 40 = .ok (.ifCond .ne 15, 3) := by decide +kernel
theorem dX4_then_43 : decode cX4_then 43 = .ok (.aload_n 0, 1) := by decide +kernel
theorem dX4_then_44 : decode cX4_then 44 = .ok (.getfield 19, 3) := by decide +kernel
theorem dX4_then_47 : decode cX4_then 47 = .ok (.getfield 108, 3) := by decide +kernel
theorem dX4_then_50 : decode cX4_then 50 = .ok (.iload_n 1, 1) := by decide +kernel
theorem dX4_then_51 : decode cX4_then 51 = .ok (.iaload, 1) := by decide +kernel
theorem dX4_then_52 : decode cX4_then 52 = .ok (.goto 12, 3) := by decide +kernel
theorem dX4_then_55 : decode cX4_then 55 = .ok (.aload_n 0, 1) := by decide +kernel
theorem dX4_then_56 : decode cX4_then 56 = .ok (.getfield 19, 3) := by decide +kernel
theorem dX4_then_59 : decode cX4_then 59 = .ok (.getfield 105, 3) := by decide +kernel
theorem dX4_then_62 : decode cX4_then 62 = .ok (.iload_n 1, 1) := by decide +kernel
theorem dX4_then_63 : decode cX4_then 63 = .ok (.iaload, 1) := by decide +kernel
theorem dX4_then_64 : decode cX4_then 64 = .ok (.ireturn, 1) := by decide +kernel
theorem dX4_clean_0 : decode cX4_clean 0 = .ok (.iload_n 1, 1) := by decide +kernel
theorem dX4_clean_1 : decode cX4_clean 1 = .ok (.invokestatic 60, 3) := by decide +kernel
theorem dX4_clean_4 : decode cX4_clean 4 = .ok (.ifCond .ne 10, 3) := by decide +kernel
theorem dX4_clean_7 : decode cX4_clean 7 = .ok (.aload_n 0, 1) := by decide +kernel
theorem dX4_clean_8 : decode cX4_clean 8 = .ok (.ldc 51, 2) := by decide +kernel
theorem dX4_clean_10 : decode cX4_clean 10 = .ok (.invokevirtual 52, 3) := by decide +kernel
theorem dX4_clean_13 : decode cX4_clean 13 = .ok (.ireturn, 1) := by decide +kernel
theorem dX4_clean_14 : decode cX4_clean 14 = .ok (.aload_n 0, 1) := by decide +kernel
theorem dX4_clean_15 : decode cX4_clean 15 = .ok (.getfield 19, 3) := by decide +kernel
theorem dX4_clean_18 : decode cX4_clean 18 = .ok (.aload_n 0, 1) := by decide +kernel
theorem dX4_clean_19 : decode cX4_clean 19 = .ok (.getfield 12, 3) := by decide +kernel
theorem dX4_clean_22 : decode cX4_clean 22 = .ok (.invokevirtual 154, 3) := by decide +kernel
theorem dX4_clean_25 : decode cX4_clean 25 = .ok (.iconst 0, 1) := by decide +kernel
theorem dX4_clean_26 : decode cX4_clean 26 = .ok (.istore_n 2, 1) := by decide +kernel
theorem dX4_clean_27 : decode cX4_clean 27 = .ok (.iload_n 2, 1) := by decide +kernel
theorem dX4_clean_28 : decode cX4_clean 28 = .ok (.bipush 100, 2) := by decide +kernel
theorem dX4_clean_30 : decode cX4_clean 30 = .ok (.if_icmp .gt 30, 3) := by decide +kernel
theorem dX4_clean_33 : decode cX4_clean 33 = .ok (.aload_n 0, 1) := by decide +kernel
theorem dX4_clean_34 : decode cX4_clean 34 = .ok (.getfield 19, 3) := by decide +kernel
theorem dX4_clean_37 : decode cX4_clean 37 = .ok (.getfield 64, 3) := by decide +kernel
theorem dX4_clean_40 : decode cX4_clean 40 = .ok (.iload_n 1, 1) := by decide +kernel
theorem dX4_clean_41 : decode cX4_clean 41 = .ok (.iaload, 1) := by decide +kernel
theorem dX4_clean_42 : decode cX4_clean 42 = .ok (.ifCond .ne 5, 3) := by decide +kernel
theorem dX4_clean_45 : decode cX4_clean 45 = .ok (.iload_n 2, 1) := by decide +kernel
theorem dX4_clean_46 : decode cX4_clean 46 = .ok (.ireturn, 1) := by decide +kernel
theorem dX4_clean_47 : decode cX4_clean 47 = .ok (.aload_n 0, 1) := by decide +kernel
theorem dX4_clean_48 : decode cX4_clean 48 = .ok (.getfield 19, 3) := by decide +kernel
theorem dX4_clean_51 : decode cX4_clean 51 = .ok (.invokevirtual 158, 3) := by decide +kernel
theorem dX4_clean_54 : decode cX4_clean 54 = .ok (.iinc 2 1, 3) := by decide +kernel
theorem dX4_clean_57 : decode cX4_clean 57 = .ok (.goto (-30), 3) := by decide +kernel
theorem dX4_clean_60 : decode cX4_clean 60 = .ok (.aload_n 0, 1) := by decide +kernel
theorem dX4_clean_61 : decode cX4_clean 61 = .ok (.ldc 161, 2) := by decide +kernel
theorem dX4_clean_63 : decode cX4_clean 63 = .ok (.invokevirtual 52, 3) := by decide +kernel
theorem dX4_clean_66 : decode cX4_clean 66 = .ok (.ireturn, 1) := by decide +kernel
theorem dX4_comes_0 : decode cX4_comes 0 = .ok (.iload_n 1, 1) := by decide +kernel
theorem dX4_comes_1 : decode cX4_comes 1 = .ok (.invokestatic 60, 3) := by decide +kernel
theorem dX4_comes_4 : decode cX4_comes 4 = .ok (.ifCond .eq 10, 3) := by decide +kernel
theorem dX4_comes_7 : decode cX4_comes 7 = .ok (.iload_n 2, 1) := by decide +kernel
theorem dX4_comes_8 : decode cX4_comes 8 = .ok (.invokestatic 162, 3) := by decide +kernel
theorem dX4_comes_11 : decode cX4_comes 11 = .ok (.ifCond .ne 10, 3) := by decide +kernel
theorem dX4_comes_14 : decode cX4_comes 14 = .ok (.aload_n 0, 1) := by decide +kernel
theorem dX4_comes_15 : decode cX4_comes 15 = .ok (.ldc 51, 2) := by decide +kernel
theorem dX4_comes_17 : decode cX4_comes 17 = .ok (.invokevirtual 52, 3) := by decide +kernel
theorem dX4_comes_20 : decode cX4_comes 20 = .ok (.ireturn, 1) := by decide +kernel
theorem dX4_comes_21 : decode cX4_comes 21 = .ok (.aload_n 0, 1) := by decide +kernel
theorem dX4_comes_22 : decode cX4_comes 22 = .ok (.aload_n 0, 1) := by decide +kernel
theorem dX4_comes_23 : decode cX4_comes 23 = .ok (.getfield 19, 3) := by decide +kernel
theorem dX4_comes_26 : decode cX4_comes 26 = .ok (.getfield 67, 3) := by decide +kernel
theorem dX4_comes_29 : decode cX4_comes 29 = .ok (.iload_n 1, 1) := by decide +kernel
theorem dX4_comes_30 : decode cX4_comes 30 = .ok (.iload_n 2, 1) := by decide +kernel
theorem dX4_comes_31 : decode cX4_comes 31 = .ok (.invokevirtual 165, 3) := by decide +kernel
theorem dX4_comes_34 : decode cX4_comes 34 = .ok (.ireturn, 1) := by decide +kernel
theorem dX4_holds_0 : decode cX4_holds 0 = .ok (.aload_n 0, 1) := by decide +kernel
theorem dX4_holds_1 : decode cX4_holds 1 = .ok (.iload_n 1, 1) := by decide +kernel
theorem dX4_holds_2 : decode cX4_holds 2 = .ok (.invokevirtual 99, 3) := by decide +kernel
theorem dX4_holds_5 : decode cX4_holds 5 = .ok (.ifCond .eq 10, 3) := by decide +kernel
theorem dX4_holds_8 : decode cX4_holds 8 = .ok (.iload_n 2, 1) := by decide +kernel
theorem dX4_holds_9 : decode cX4_holds 9 = .ok (.invokestatic 162, 3) := by decide +kernel
theorem dX4_holds_12 : decode cX4_holds 12 = .ok (.ifCond .ne 10, 3) := by decide +kernel
theorem dX4_holds_15 : decode cX4_holds 15 = .ok (.aload_n 0, 1) := by decide +kernel
theorem dX4_holds_16 : decode cX4_holds 16 = .ok (.ldc 51, 2) := by decide +kernel
theorem dX4_holds_18 : decode cX4_holds 18 = .ok (.invokevirtual 52, 3) := by decide +kernel
theorem dX4_holds_21 : decode cX4_holds 21 = .ok (.ireturn, 1) := by decide +kernel
theorem dX4_holds_22 : decode cX4_holds 22 = .ok (.aload_n 0, 1) := by decide +kernel
theorem dX4_holds_23 : decode cX4_holds 23 = .ok (.aload_n 0, 1) := by decide +kernel
theorem dX4_holds_24 : decode cX4_holds 24 = .ok (.getfield 19, 3) := by decide +kernel
theorem dX4_holds_27 : decode cX4_holds 27 = .ok (.getfield 108, 3) := by decide +kernel
theorem dX4_holds_30 : decode cX4_holds 30 = .ok (.iload_n 1, 1) := by decide +kernel
theorem dX4_holds_31 : decode cX4_holds 31 = .ok (.iload_n 2, 1) := by decide +kernel
theorem dX4_holds_32 : decode cX4_holds 32 = .ok (.invokevirtual 165, 3) := by decide +kernel
theorem dX4_holds_35 : decode cX4_holds 35 = .ok (.ireturn, 1) := by decide +kernel
theorem dX4_round_0 : decode cX4_round 0 = .ok (.aload_n 0, 1) := by decide +kernel
theorem dX4_round_1 : decode cX4_round 1 = .ok (.iload_n 1, 1) := by decide +kernel
theorem dX4_round_2 : decode cX4_round 2 = .ok (.invokevirtual 99, 3) := by decide +kernel
theorem dX4_round_5 : decode cX4_round 5 = .ok (.ifCond .eq 13, 3) := by decide +kernel
theorem dX4_round_8 : decode cX4_round 8 = .ok (.iload_n 2, 1) := by decide +kernel
theorem dX4_round_9 : decode cX4_round 9 = .ok (.iconst 1, 1) := by decide +kernel
theorem dX4_round_10 : decode cX4_round 10 = .ok (.bipush 40, 2) := by decide +kernel
theorem dX4_round_12 : decode cX4_round 12 = .ok (.invokestatic 47, 3) := by decide +kernel
theorem dX4_round_15 : decode cX4_round 15 = .ok (.ifCond .ne 10, 3) := by decide +kernel
theorem dX4_round_18 : decode cX4_round 18 = .ok (.aload_n 0, 1) := by decide +kernel
theorem dX4_round_19 : decode cX4_round 19 = .ok (.ldc 51, 2) := by decide +kernel
theorem dX4_round_21 : decode cX4_round 21 = .ok (.invokevirtual 52, 3) := by decide +kernel
theorem dX4_round_24 : decode cX4_round 24 = .ok (.ireturn, 1) := by decide +kernel
theorem dX4_round_25 : decode cX4_round 25 = .ok (.iconst 0, 1) := by decide +kernel
theorem dX4_round_26 : decode cX4_round 26 = .ok (.istore_n 3, 1) := by decide +kernel
theorem dX4_round_27 : decode cX4_round 27 = .ok (.ldc 171, 2) := by decide +kernel
theorem dX4_round_29 : decode cX4_round 29 = .ok (.istore 4, 2) := by decide +kernel
theorem dX4_round_31 : decode cX4_round 31 = .ok (.iconst 0, 1) := by decide +kernel
theorem dX4_round_32 : decode cX4_round 32 = .ok (.istore 5, 2) := by decide +kernel
theorem dX4_round_34 : decode cX4_round 34 = .ok (.iload 5, 2) := by decide +kernel
theorem dX4_round_36 : decode cX4_round 36 = .ok (.bipush 8, 2) := by decide +kernel
theorem dX4_round_38 : decode cX4_round 38 = .ok (.if_icmp .ge 52, 3) := by decide +kernel
theorem dX4_round_41 : decode cX4_round 41 = .ok (.aload_n 0, 1) := by decide +kernel
theorem dX4_round_42 : decode cX4_round 42 = .ok (.getfield 19, 3) := by decide +kernel
theorem dX4_round_45 : decode cX4_round 45 = .ok (.aload_n 0, 1) := by decide +kernel
theorem dX4_round_46 : decode cX4_round 46 = .ok (.getfield 12, 3) := by decide +kernel
theorem dX4_round_49 : decode cX4_round 49 = .ok (.invokevirtual 154, 3) := by decide +kernel
theorem dX4_round_52 : decode cX4_round 52 = .ok (.aload_n 0, 1) := by decide +kernel
theorem dX4_round_53 : decode cX4_round 53 = .ok (.getfield 19, 3) := by decide +kernel
theorem dX4_round_56 : decode cX4_round 56 = .ok (.getfield 111, 3) := by decide +kernel
theorem dX4_round_59 : decode cX4_round 59 = .ok (.iload_n 1, 1) := by decide +kernel
theorem dX4_round_60 : decode cX4_round 60 = .ok (.iload 5, 2) := by decide +kernel
theorem dX4_round_62 : decode cX4_round 62 = .ok (.iastore, 1) := by decide +kernel
theorem dX4_round_63 : decode cX4_round 63 = .ok (.aload_n 0, 1) := by decide +kernel
theorem dX4_round_64 : decode cX4_round 64 = .ok (.iload_n 2, 1) := by decide +kernel
theorem dX4_round_65 : decode cX4_round 65 = .ok (.invokevirtual 172, 3) := by decide +kernel
theorem dX4_round_68 : decode cX4_round 68 = .ok (.istore 6, 2) := by decide +kernel
theorem dX4_round_70 : decode cX4_round 70 = .ok (.iload 6, 2) := by decide +kernel
theorem dX4_round_72 : decode cX4_round 72 = .ok (.iload 4, 2) := by decide +kernel
theorem dX4_round_74 : decode cX4_round 74 = .ok (.if_icmp .ge 10, 3) := by decide +kernel
theorem dX4_round_77 : decode cX4_round 77 = .ok (.iload 6, 2) := by decide +kernel
theorem dX4_round_79 : decode cX4_round 79 = .ok (.istore 4, 2) := by decide +kernel
theorem dX4_round_81 : decode cX4_round 81 = .ok (.iload 5, 2) := by decide +kernel
theorem dX4_round_83 : decode cX4_round 83 = .ok (.istore_n 3, 1) := by decide +kernel
theorem dX4_round_84 : decode cX4_round 84 = .ok (.iinc 5 1, 3) := by decide +kernel
theorem dX4_round_87 : decode cX4_round 87 = .ok (.goto (-53), 3) := by decide +kernel
theorem dX4_round_90 : decode cX4_round 90 = .ok (.iload_n 3, 1) := by decide +kernel
theorem dX4_round_91 : decode cX4_round 91 = .ok (.ireturn, 1) := by decide +kernel
theorem dX4_kind_0 : decode cX4_kind 0 = .ok (.aload_n 0, 1) := by decide +kernel
theorem dX4_kind_1 : decode cX4_kind 1 = .ok (.iload_n 1, 1) := by decide +kernel
theorem dX4_kind_2 : decode cX4_kind 2 = .ok (.invokevirtual 99, 3) := by decide +kernel
theorem dX4_kind_5 : decode cX4_kind 5 = .ok (.ifCond .eq 13, 3) := by decide +kernel
theorem dX4_kind_8 : decode cX4_kind 8 = .ok (.iload_n 2, 1) := by decide +kernel
theorem dX4_kind_9 : decode cX4_kind 9 = .ok (.iconst 1, 1) := by decide +kernel
theorem dX4_kind_10 : decode cX4_kind 10 = .ok (.bipush 40, 2) := by decide +kernel
theorem dX4_kind_12 : decode cX4_kind 12 = .ok (.invokestatic 47, 3) := by decide +kernel
theorem dX4_kind_15 : decode cX4_kind 15 = .ok (.ifCond .ne 10, 3) := by decide +kernel
theorem dX4_kind_18 : decode cX4_kind 18 = .ok (.aload_n 0, 1) := by decide +kernel
theorem dX4_kind_19 : decode cX4_kind 19 = .ok (.ldc 51, 2) := by decide +kernel
theorem dX4_kind_21 : decode cX4_kind 21 = .ok (.invokevirtual 52, 3) := by decide +kernel
theorem dX4_kind_24 : decode cX4_kind 24 = .ok (.ireturn, 1) := by decide +kernel
theorem dX4_kind_25 : decode cX4_kind 25 = .ok (.aload_n 0, 1) := by decide +kernel
theorem dX4_kind_26 : decode cX4_kind 26 = .ok (.aload_n 0, 1) := by decide +kernel
theorem dX4_kind_27 : decode cX4_kind 27 = .ok (.getfield 19, 3) := by decide +kernel
theorem dX4_kind_30 : decode cX4_kind 30 = .ok (.getfield 102, 3) := by decide +kernel
theorem dX4_kind_33 : decode cX4_kind 33 = .ok (.iload_n 1, 1) := by decide +kernel
theorem dX4_kind_34 : decode cX4_kind 34 = .ok (.iconst 5, 1) := by decide +kernel
theorem dX4_kind_35 : decode cX4_kind 35 = .ok (.iload_n 2, 1) := by decide +kernel
theorem dX4_kind_36 : decode cX4_kind 36 = .ok (.invokevirtual 175, 3) := by decide +kernel
theorem dX4_kind_39 : decode cX4_kind 39 = .ok (.ireturn, 1) := by decide +kernel
theorem dX4_grime_0 : decode cX4_grime 0 = .ok (.aload_n 0, 1) := by decide +kernel
theorem dX4_grime_1 : decode cX4_grime 1 = .ok (.iload_n 1, 1) := by decide +kernel
theorem dX4_grime_2 : decode cX4_grime 2 = .ok (.invokevirtual 99, 3) := by decide +kernel
theorem dX4_grime_5 : decode cX4_grime 5 = .ok (.ifCond .eq 13, 3) := by decide +kernel
theorem dX4_grime_8 : decode cX4_grime 8 = .ok (.iload_n 2, 1) := by decide +kernel
theorem dX4_grime_9 : decode cX4_grime 9 = .ok (.iconst 1, 1) := by decide +kernel
theorem dX4_grime_10 : decode cX4_grime 10 = .ok (.bipush 40, 2) := by decide +kernel
theorem dX4_grime_12 : decode cX4_grime 12 = .ok (.invokestatic 47, 3) := by decide +kernel
theorem dX4_grime_15 : decode cX4_grime 15 = .ok (.ifCond .ne 10, 3) := by decide +kernel
theorem dX4_grime_18 : decode cX4_grime 18 = .ok (.aload_n 0, 1) := by decide +kernel
theorem dX4_grime_19 : decode cX4_grime 19 = .ok (.ldc 51, 2) := by decide +kernel
theorem dX4_grime_21 : decode cX4_grime 21 = .ok (.invokevirtual 52, 3) := by decide +kernel
theorem dX4_grime_24 : decode cX4_grime 24 = .ok (.ireturn, 1) := by decide +kernel
theorem dX4_grime_25 : decode cX4_grime 25 = .ok (.aload_n 0, 1) := by decide +kernel
theorem dX4_grime_26 : decode cX4_grime 26 = .ok (.aload_n 0, 1) := by decide +kernel
theorem dX4_grime_27 : decode cX4_grime 27 = .ok (.getfield 19, 3) := by decide +kernel
theorem dX4_grime_30 : decode cX4_grime 30 = .ok (.getfield 105, 3) := by decide +kernel
theorem dX4_grime_33 : decode cX4_grime 33 = .ok (.iload_n 1, 1) := by decide +kernel
theorem dX4_grime_34 : decode cX4_grime 34 = .ok (.bipush 99, 2) := by decide +kernel
theorem dX4_grime_36 : decode cX4_grime 36 = .ok (.iload_n 2, 1) := by decide +kernel
theorem dX4_grime_37 : decode cX4_grime 37 = .ok (.invokevirtual 175, 3) := by decide +kernel
theorem dX4_grime_40 : decode cX4_grime 40 = .ok (.ireturn, 1) := by decide +kernel
theorem dX4_best_0 : decode cX4_best 0 = .ok (.iload_n 1, 1) := by decide +kernel
theorem dX4_best_1 : decode cX4_best 1 = .ok (.iconst 1, 1) := by decide +kernel
theorem dX4_best_2 : decode cX4_best 2 = .ok (.bipush 40, 2) := by decide +kernel
theorem dX4_best_4 : decode cX4_best 4 = .ok (.invokestatic 47, 3) := by decide +kernel
theorem dX4_best_7 : decode cX4_best 7 = .ok (.ifCond .ne 10, 3) := by decide +kernel
theorem dX4_best_10 : decode cX4_best 10 = .ok (.aload_n 0, 1) := by decide +kernel
theorem dX4_best_11 : decode cX4_best 11 = .ok (.ldc 51, 2) := by decide +kernel
theorem dX4_best_13 : decode cX4_best 13 = .ok (.invokevirtual 52, 3) := by decide +kernel
theorem dX4_best_16 : decode cX4_best 16 = .ok (.ireturn, 1) := by decide +kernel
theorem dX4_best_17 : decode cX4_best 17 = .ok (.aload_n 0, 1) := by decide +kernel
theorem dX4_best_18 : decode cX4_best 18 = .ok (.getfield 12, 3) := by decide +kernel
theorem dX4_best_21 : decode cX4_best 21 = .ok (.getfield 92, 3) := by decide +kernel
theorem dX4_best_24 : decode cX4_best 24 = .ok (.ifCond .ne 10, 3) := by decide +kernel
theorem dX4_best_27 : decode cX4_best 27 = .ok (.aload_n 0, 1) := by decide +kernel
theorem dX4_best_28 : decode cX4_best 28 = .ok (.ldc 161, 2) := by decide +kernel
theorem dX4_best_30 : decode cX4_best 30 = .ok (.invokevirtual 52, 3) := by decide +kernel
theorem dX4_best_33 : decode cX4_best 33 = .ok (.ireturn, 1) := by decide +kernel
theorem dX4_best_34 : decode cX4_best 34 = .ok (.iconst 0, 1) := by decide +kernel
theorem dX4_best_35 : decode cX4_best 35 = .ok (.istore_n 2, 1) := by decide +kernel
theorem dX4_best_36 : decode cX4_best 36 = .ok (.ldc 171, 2) := by decide +kernel
theorem dX4_best_38 : decode cX4_best 38 = .ok (.istore_n 3, 1) := by decide +kernel
theorem dX4_best_39 : decode cX4_best 39 = .ok (.iconst 0, 1) := by decide +kernel
theorem dX4_best_40 : decode cX4_best 40 = .ok (.istore 4, 2) := by decide +kernel
theorem dX4_best_42 : decode cX4_best 42 = .ok (.iload 4, 2) := by decide +kernel
theorem dX4_best_44 : decode cX4_best 44 = .ok (.aload_n 0, 1) := by decide +kernel
theorem dX4_best_45 : decode cX4_best 45 = .ok (.getfield 12, 3) := by decide +kernel
theorem dX4_best_48 : decode cX4_best 48 = .ok (.getfield 92, 3) := by decide +kernel
theorem dX4_best_51 : decode cX4_best 51 = .ok (.if_icmp .ge 49, 3) := by decide +kernel
theorem dX4_best_54 : decode cX4_best 54 = .ok (.aload_n 0, 1) := by decide +kernel
theorem dX4_best_55 : decode cX4_best 55 = .ok (.getfield 19, 3) := by decide +kernel
theorem dX4_best_58 : decode cX4_best 58 = .ok (.aload_n 0, 1) := by decide +kernel
theorem dX4_best_59 : decode cX4_best 59 = .ok (.getfield 12, 3) := by decide +kernel
theorem dX4_best_62 : decode cX4_best 62 = .ok (.invokevirtual 154, 3) := by decide +kernel
theorem dX4_best_65 : decode cX4_best 65 = .ok (.aload_n 0, 1) := by decide +kernel
theorem dX4_best_66 : decode cX4_best 66 = .ok (.getfield 19, 3) := by decide +kernel
theorem dX4_best_69 : decode cX4_best 69 = .ok (.iload 4, 2) := by decide +kernel
theorem dX4_best_71 : decode cX4_best 71 = .ok (.invokevirtual 140, 3) := by decide +kernel
theorem dX4_best_74 : decode cX4_best 74 = .ok (.pop, 1) := by decide +kernel
theorem dX4_best_75 : decode cX4_best 75 = .ok (.aload_n 0, 1) := by decide +kernel
theorem dX4_best_76 : decode cX4_best 76 = .ok (.iload_n 1, 1) := by decide +kernel
theorem dX4_best_77 : decode cX4_best 77 = .ok (.invokevirtual 172, 3) := by decide +kernel
theorem dX4_best_80 : decode cX4_best 80 = .ok (.istore 5, 2) := by decide +kernel
theorem dX4_best_82 : decode cX4_best 82 = .ok (.iload 5, 2) := by decide +kernel
theorem dX4_best_84 : decode cX4_best 84 = .ok (.iload_n 3, 1) := by decide +kernel
theorem dX4_best_85 : decode cX4_best 85 = .ok (.if_icmp .ge 9, 3) := by decide +kernel
theorem dX4_best_88 : decode cX4_best 88 = .ok (.iload 5, 2) := by decide +kernel
theorem dX4_best_90 : decode cX4_best 90 = .ok (.istore_n 3, 1) := by decide +kernel
theorem dX4_best_91 : decode cX4_best 91 = .ok (.iload 4, 2) := by decide +kernel
theorem dX4_best_93 : decode cX4_best 93 = .ok (.istore_n 2, 1) := by decide +kernel
theorem dX4_best_94 : decode cX4_best 94 = .ok (.iinc 4 1, 3) := by decide +kernel
theorem dX4_best_97 : decode cX4_best 97 = .ok (.goto (-55), 3) := by decide +kernel
theorem dX4_best_100 : decode cX4_best 100 = .ok (.iload_n 2, 1) := by decide +kernel
theorem dX4_best_101 : decode cX4_best 101 = .ok (.ireturn, 1) := by decide +kernel
theorem dX4_delay_0 : decode cX4_delay 0 = .ok (.aload_n 0, 1) := by decide +kernel
theorem dX4_delay_1 : decode cX4_delay 1 = .ok (.iload_n 1, 1) := by decide +kernel
theorem dX4_delay_2 : decode cX4_delay 2 = .ok (.invokevirtual 99, 3) := by decide +kernel
theorem dX4_delay_5 : decode cX4_delay 5 = .ok (.ifCond .eq 20, 3) := by decide +kernel
theorem dX4_delay_8 : decode cX4_delay 8 = .ok (.iload_n 2, 1) := by decide +kernel
theorem dX4_delay_9 : decode cX4_delay 9 = .ok (.invokestatic 60, 3) := by decide +kernel
theorem dX4_delay_12 : decode cX4_delay 12 = .ok (.ifCond .eq 13, 3) := by decide +kernel
theorem dX4_delay_15 : decode cX4_delay 15 = .ok (.iload_n 3, 1) := by decide +kernel
theorem dX4_delay_16 : decode cX4_delay 16 = .ok (.iconst 1, 1) := by decide +kernel
theorem dX4_delay_17 : decode cX4_delay 17 = .ok (.bipush 20, 2) := by decide +kernel
theorem dX4_delay_19 : decode cX4_delay 19 = .ok (.invokestatic 47, 3) := by decide +kernel
theorem dX4_delay_22 : decode cX4_delay 22 = .ok (.ifCond .ne 10, 3) := by decide +kernel
theorem dX4_delay_25 : decode cX4_delay 25 = .ok (.aload_n 0, 1) := by decide +kernel
theorem dX4_delay_26 : decode cX4_delay 26 = .ok (.ldc 51, 2) := by decide +kernel
theorem dX4_delay_28 : decode cX4_delay 28 = .ok (.invokevirtual 52, 3) := by decide +kernel
theorem dX4_delay_31 : decode cX4_delay 31 = .ok (.ireturn, 1) := by decide +kernel
theorem dX4_delay_32 : decode cX4_delay 32 = .ok (.iconst 0, 1) := by decide +kernel
theorem dX4_delay_33 : decode cX4_delay 33 = .ok (.istore 4, 2) := by decide +kernel
theorem dX4_delay_35 : decode cX4_delay 35 = .ok (.iconst (-1), 1) := by decide +kernel
theorem dX4_delay_36 : decode cX4_delay 36 = .ok (.istore 5, 2) := by decide +kernel
theorem dX4_delay_38 : decode cX4_delay 38 = .ok (.aload_n 0, 1) := by decide +kernel
theorem dX4_delay_39 : decode cX4_delay 39 = .ok (.getfield 19, 3) := by decide +kernel
theorem dX4_delay_42 : decode cX4_delay 42 = .ok (.aload_n 0, 1) := by decide +kernel
theorem dX4_delay_43 : decode cX4_delay 43 = .ok (.getfield 12, 3) := by decide +kernel
theorem dX4_delay_46 : decode cX4_delay 46 = .ok (.invokevirtual 154, 3) := by decide +kernel
theorem dX4_delay_49 : decode cX4_delay 49 = .ok (.iconst 0, 1) := by decide +kernel
theorem dX4_delay_50 : decode cX4_delay 50 = .ok (.istore 6, 2) := by decide +kernel
theorem dX4_delay_52 : decode cX4_delay 52 = .ok (.iload 6, 2) := by decide +kernel
theorem dX4_delay_54 : decode cX4_delay 54 = .ok (.bipush 20, 2) := by decide +kernel
theorem dX4_delay_56 : decode cX4_delay 56 = .ok (.if_icmp .gt 73, 3) := by decide +kernel
theorem dX4_delay_59 : decode cX4_delay 59 = .ok (.aload_n 0, 1) := by decide +kernel
theorem dX4_delay_60 : decode cX4_delay 60 = .ok (.getfield 22, 3) := by decide +kernel
theorem dX4_delay_63 : decode cX4_delay 63 = .ok (.aload_n 0, 1) := by decide +kernel
theorem dX4_delay_64 : decode cX4_delay 64 = .ok (.getfield 19, 3) := by decide +kernel
theorem dX4_delay_67 : decode cX4_delay 67 = .ok (.invokevirtual 154, 3) := by decide +kernel
theorem dX4_delay_70 : decode cX4_delay 70 = .ok (.aload_n 0, 1) := by decide +kernel
theorem dX4_delay_71 : decode cX4_delay 71 = .ok (.getfield 22, 3) := by decide +kernel
theorem dX4_delay_74 : decode cX4_delay 74 = .ok (.iload_n 1, 1) := by decide +kernel
theorem dX4_delay_75 : decode cX4_delay 75 = .ok (.invokevirtual 143, 3) := by decide +kernel
theorem dX4_delay_78 : decode cX4_delay 78 = .ok (.pop, 1) := by decide +kernel
theorem dX4_delay_79 : decode cX4_delay 79 = .ok (.aload_n 0, 1) := by decide +kernel
theorem dX4_delay_80 : decode cX4_delay 80 = .ok (.getfield 22, 3) := by decide +kernel
theorem dX4_delay_83 : decode cX4_delay 83 = .ok (.iload_n 3, 1) := by decide +kernel
theorem dX4_delay_84 : decode cX4_delay 84 = .ok (.invokevirtual 147, 3) := by decide +kernel
theorem dX4_delay_87 : decode cX4_delay 87 = .ok (.aload_n 0, 1) := by decide +kernel
theorem dX4_delay_88 : decode cX4_delay 88 = .ok (.getfield 22, 3) := by decide +kernel
theorem dX4_delay_91 : decode cX4_delay 91 = .ok (.getfield 67, 3) := by decide +kernel
theorem dX4_delay_94 : decode cX4_delay 94 = .ok (.iload_n 2, 1) := by decide +kernel
theorem dX4_delay_95 : decode cX4_delay 95 = .ok (.iaload, 1) := by decide +kernel
theorem dX4_delay_96 : decode cX4_delay 96 = .ok (.invokestatic 179, 3) := by decide +kernel
theorem dX4_delay_99 : decode cX4_delay 99 = .ok (.istore 7, 2) := by decide +kernel
theorem dX4_delay_101 : decode cX4_delay 101 = .ok (.iload 7, 2) := by decide +kernel
theorem dX4_delay_103 : decode cX4_delay 103 = .ok (.iload 5, 2) := by decide +kernel
theorem dX4_delay_105 : decode cX4_delay 105 = .ok (.if_icmp .le 11, 3) := by decide +kernel
theorem dX4_delay_108 : decode cX4_delay 108 = .ok (.iload 7, 2) := by decide +kernel
theorem dX4_delay_110 : decode cX4_delay 110 = .ok (.istore 5, 2) := by decide +kernel
theorem dX4_delay_112 : decode cX4_delay 112 = .ok (.iload 6, 2) := by decide +kernel
theorem dX4_delay_114 : decode cX4_delay 114 = .ok (.istore 4, 2) := by decide +kernel
theorem dX4_delay_116 : decode cX4_delay 116 = .ok (.aload_n 0, 1) := by decide +kernel
theorem dX4_delay_117 : decode cX4_delay 117 = .ok (.getfield 19, 3) := by decide +kernel
theorem dX4_delay_120 : decode cX4_delay 120 = .ok (.invokevirtual 158, 3) := by decide +kernel
theorem dX4_delay_123 : decode cX4_delay 123 = .ok (.iinc 6 1, 3) := by decide +kernel
theorem dX4_delay_126 : decode cX4_delay 126 = .ok (.goto (-74), 3) := by decide +kernel
theorem dX4_delay_129 : decode cX4_delay 129 = .ok (.iload 4, 2) := by decide +kernel
theorem dX4_delay_131 : decode cX4_delay 131 = .ok (.ireturn, 1) := by decide +kernel
theorem dX4_bears_0 : decode cX4_bears 0 = .ok (.iload_n 1, 1) := by decide +kernel
theorem dX4_bears_1 : decode cX4_bears 1 = .ok (.iconst 1, 1) := by decide +kernel
theorem dX4_bears_2 : decode cX4_bears 2 = .ok (.bipush 40, 2) := by decide +kernel
theorem dX4_bears_4 : decode cX4_bears 4 = .ok (.invokestatic 47, 3) := by decide +kernel
theorem dX4_bears_7 : decode cX4_bears 7 = .ok (.ifCond .ne 10, 3) := by decide +kernel
theorem dX4_bears_10 : decode cX4_bears 10 = .ok (.aload_n 0, 1) := by decide +kernel
theorem dX4_bears_11 : decode cX4_bears 11 = .ok (.ldc 51, 2) := by decide +kernel
theorem dX4_bears_13 : decode cX4_bears 13 = .ok (.invokevirtual 52, 3) := by decide +kernel
theorem dX4_bears_16 : decode cX4_bears 16 = .ok (.ireturn, 1) := by decide +kernel
theorem dX4_bears_17 : decode cX4_bears 17 = .ok (.aload_n 0, 1) := by decide +kernel
theorem dX4_bears_18 : decode cX4_bears 18 = .ok (.getfield 12, 3) := by decide +kernel
theorem dX4_bears_21 : decode cX4_bears 21 = .ok (.invokevirtual 76, 3) := by decide +kernel
theorem dX4_bears_24 : decode cX4_bears 24 = .ok (.istore_n 2, 1) := by decide +kernel
theorem dX4_bears_25 : decode cX4_bears 25 = .ok (.bipush 20, 2) := by decide +kernel
theorem dX4_bears_27 : decode cX4_bears 27 = .ok (.istore_n 3, 1) := by decide +kernel
theorem dX4_bears_28 : decode cX4_bears 28 = .ok (.iload_n 3, 1) := by decide +kernel
theorem dX4_bears_29 : decode cX4_bears 29 = .ok (.ifCond .lt 39, 3) := by decide +kernel
theorem dX4_bears_32 : decode cX4_bears 32 = .ok (.aload_n 0, 1) := by decide +kernel
theorem dX4_bears_33 : decode cX4_bears 33 = .ok (.getfield 19, 3) := by decide +kernel
theorem dX4_bears_36 : decode cX4_bears 36 = .ok (.aload_n 0, 1) := by decide +kernel
theorem dX4_bears_37 : decode cX4_bears 37 = .ok (.getfield 12, 3) := by decide +kernel
theorem dX4_bears_40 : decode cX4_bears 40 = .ok (.invokevirtual 154, 3) := by decide +kernel
theorem dX4_bears_43 : decode cX4_bears 43 = .ok (.aload_n 0, 1) := by decide +kernel
theorem dX4_bears_44 : decode cX4_bears 44 = .ok (.getfield 19, 3) := by decide +kernel
theorem dX4_bears_47 : decode cX4_bears 47 = .ok (.iload_n 3, 1) := by decide +kernel
theorem dX4_bears_48 : decode cX4_bears 48 = .ok (.putfield 56, 3) := by decide +kernel
theorem dX4_bears_51 : decode cX4_bears 51 = .ok (.aload_n 0, 1) := by decide +kernel
theorem dX4_bears_52 : decode cX4_bears 52 = .ok (.iload_n 1, 1) := by decide +kernel
theorem dX4_bears_53 : decode cX4_bears 53 = .ok (.invokevirtual 172, 3) := by decide +kernel
theorem dX4_bears_56 : decode cX4_bears 56 = .ok (.iload_n 2, 1) := by decide +kernel
theorem dX4_bears_57 : decode cX4_bears 57 = .ok (.if_icmp .gt 5, 3) := by decide +kernel
theorem dX4_bears_60 : decode cX4_bears 60 = .ok (.iload_n 3, 1) := by decide +kernel
theorem dX4_bears_61 : decode cX4_bears 61 = .ok (.ireturn, 1) := by decide +kernel
theorem dX4_bears_62 : decode cX4_bears 62 = .ok (.iinc 3 (-1), 3) := by decide +kernel
theorem dX4_bears_65 : decode cX4_bears 65 = .ok (.goto (-37), 3) := by decide +kernel
theorem dX4_bears_68 : decode cX4_bears 68 = .ok (.aload_n 0, 1) := by decide +kernel
theorem dX4_bears_69 : decode cX4_bears 69 = .ok (.ldc 161, 2) := by decide +kernel
theorem dX4_bears_71 : decode cX4_bears 71 = .ok (.invokevirtual 52, 3) := by decide +kernel
theorem dX4_bears_74 : decode cX4_bears 74 = .ok (.ireturn, 1) := by decide +kernel
theorem dX4_fullest_0 : decode cX4_fullest 0 = .ok (.iload_n 1, 1) := by decide +kernel
theorem dX4_fullest_1 : decode cX4_fullest 1 = .ok (.iconst 0, 1) := by decide +kernel
theorem dX4_fullest_2 : decode cX4_fullest 2 = .ok (.bipush 100, 2) := by decide +kernel
theorem dX4_fullest_4 : decode cX4_fullest 4 = .ok (.invokestatic 47, 3) := by decide +kernel
theorem dX4_fullest_7 : decode cX4_fullest 7 = .ok (.ifCond .ne 10, 3) := by decide +kernel
theorem dX4_fullest_10 : decode cX4_fullest 10 = .ok (.aload_n 0, 1) := by decide +kernel
theorem dX4_fullest_11 : decode cX4_fullest 11 = .ok (.ldc 51, 2) := by decide +kernel
theorem dX4_fullest_13 : decode cX4_fullest 13 = .ok (.invokevirtual 52, 3) := by decide +kernel
theorem dX4_fullest_16 : decode cX4_fullest 16 = .ok (.ireturn, 1) := by decide +kernel
theorem dX4_fullest_17 : decode cX4_fullest 17 = .ok (.aload_n 0, 1) := by decide +kernel
theorem dX4_fullest_18 : decode cX4_fullest 18 = .ok (.iload_n 1, 1) := by decide +kernel
theorem dX4_fullest_19 : decode cX4_fullest 19 = .ok (.invokevirtual 151, 3) := by decide +kernel
theorem dX4_fullest_22 : decode cX4_fullest 22 = .ok (.iconst 0, 1) := by decide +kernel
theorem dX4_fullest_23 : decode cX4_fullest 23 = .ok (.istore_n 2, 1) := by decide +kernel
theorem dX4_fullest_24 : decode cX4_fullest 24 = .ok (.iconst (-1), 1) := by decide +kernel
theorem dX4_fullest_25 : decode cX4_fullest 25 = .ok (.istore_n 3, 1) := by decide +kernel
theorem dX4_fullest_26 : decode cX4_fullest 26 = .ok (.iconst 0, 1) := by decide +kernel
theorem dX4_fullest_27 : decode cX4_fullest 27 = .ok (.istore 4, 2) := by decide +kernel
theorem dX4_fullest_29 : decode cX4_fullest 29 = .ok (.iload 4, 2) := by decide +kernel
theorem dX4_fullest_31 : decode cX4_fullest 31 = .ok (.bipush 8, 2) := by decide +kernel
theorem dX4_fullest_33 : decode cX4_fullest 33 = .ok (.if_icmp .ge 36, 3) := by decide +kernel
theorem dX4_fullest_36 : decode cX4_fullest 36 = .ok (.aload_n 0, 1) := by decide +kernel
theorem dX4_fullest_37 : decode cX4_fullest 37 = .ok (.getfield 19, 3) := by decide +kernel
theorem dX4_fullest_40 : decode cX4_fullest 40 = .ok (.getfield 67, 3) := by decide +kernel
theorem dX4_fullest_43 : decode cX4_fullest 43 = .ok (.iload 4, 2) := by decide +kernel
theorem dX4_fullest_45 : decode cX4_fullest 45 = .ok (.iaload, 1) := by decide +kernel
theorem dX4_fullest_46 : decode cX4_fullest 46 = .ok (.invokestatic 179, 3) := by decide +kernel
theorem dX4_fullest_49 : decode cX4_fullest 49 = .ok (.istore 5, 2) := by decide +kernel
theorem dX4_fullest_51 : decode cX4_fullest 51 = .ok (.iload 5, 2) := by decide +kernel
theorem dX4_fullest_53 : decode cX4_fullest 53 = .ok (.iload_n 3, 1) := by decide +kernel
theorem dX4_fullest_54 : decode cX4_fullest 54 = .ok (.if_icmp .le 9, 3) := by decide +kernel
theorem dX4_fullest_57 : decode cX4_fullest 57 = .ok (.iload 5, 2) := by decide +kernel
theorem dX4_fullest_59 : decode cX4_fullest 59 = .ok (.istore_n 3, 1) := by decide +kernel
theorem dX4_fullest_60 : decode cX4_fullest 60 = .ok (.iload 4, 2) := by decide +kernel
theorem dX4_fullest_62 : decode cX4_fullest 62 = .ok (.istore_n 2, 1) := by decide +kernel
theorem dX4_fullest_63 : decode cX4_fullest 63 = .ok (.iinc 4 1, 3) := by decide +kernel
theorem dX4_fullest_66 : decode cX4_fullest 66 = .ok (.goto (-37), 3) := by decide +kernel
theorem dX4_fullest_69 : decode cX4_fullest 69 = .ok (.iload_n 2, 1) := by decide +kernel
theorem dX4_fullest_70 : decode cX4_fullest 70 = .ok (.ireturn, 1) := by decide +kernel
theorem dX4_feed_0 : decode cX4_feed 0 = .ok (.iload_n 2, 1) := by decide +kernel
theorem dX4_feed_1 : decode cX4_feed 1 = .ok (.iconst 1, 1) := by decide +kernel
theorem dX4_feed_2 : decode cX4_feed 2 = .ok (.iconst 4, 1) := by decide +kernel
theorem dX4_feed_3 : decode cX4_feed 3 = .ok (.invokestatic 47, 3) := by decide +kernel
theorem dX4_feed_6 : decode cX4_feed 6 = .ok (.ifCond .ne 10, 3) := by decide +kernel
theorem dX4_feed_9 : decode cX4_feed 9 = .ok (.aload_n 0, 1) := by decide +kernel
theorem dX4_feed_10 : decode cX4_feed 10 = .ok (.ldc 51, 2) := by decide +kernel
theorem dX4_feed_12 : decode cX4_feed 12 = .ok (.invokevirtual 52, 3) := by decide +kernel
theorem dX4_feed_15 : decode cX4_feed 15 = .ok (.ireturn, 1) := by decide +kernel
theorem dX4_feed_16 : decode cX4_feed 16 = .ok (.aload_n 0, 1) := by decide +kernel
theorem dX4_feed_17 : decode cX4_feed 17 = .ok (.getfield 28, 3) := by decide +kernel
theorem dX4_feed_20 : decode cX4_feed 20 = .ok (.getfield 182, 3) := by decide +kernel
theorem dX4_feed_23 : decode cX4_feed 23 = .ok (.bipush 120, 2) := by decide +kernel
theorem dX4_feed_25 : decode cX4_feed 25 = .ok (.iload_n 2, 1) := by decide +kernel
theorem dX4_feed_26 : decode cX4_feed 26 = .ok (.isub, 1) := by decide +kernel
theorem dX4_feed_27 : decode cX4_feed 27 = .ok (.if_icmp .le 10, 3) := by decide +kernel
theorem dX4_feed_30 : decode cX4_feed 30 = .ok (.aload_n 0, 1) := by decide +kernel
theorem dX4_feed_31 : decode cX4_feed 31 = .ok (.ldc 95, 2) := by decide +kernel
theorem dX4_feed_33 : decode cX4_feed 33 = .ok (.invokevirtual 52, 3) := by decide +kernel
theorem dX4_feed_36 : decode cX4_feed 36 = .ok (.ireturn, 1) := by decide +kernel
theorem dX4_feed_37 : decode cX4_feed 37 = .ok (.iload_n 2, 1) := by decide +kernel
theorem dX4_feed_38 : decode cX4_feed 38 = .ok (.iconst 1, 1) := by decide +kernel
theorem dX4_feed_39 : decode cX4_feed 39 = .ok (.isub, 1) := by decide +kernel
theorem dX4_feed_40 : decode cX4_feed 40 = .ok (.istore_n 3, 1) := by decide +kernel
theorem dX4_feed_41 : decode cX4_feed 41 = .ok (.iload_n 3, 1) := by decide +kernel
theorem dX4_feed_42 : decode cX4_feed 42 = .ok (.ifCond .lt 26, 3) := by decide +kernel
theorem dX4_feed_45 : decode cX4_feed 45 = .ok (.aload_n 0, 1) := by decide +kernel
theorem dX4_feed_46 : decode cX4_feed 46 = .ok (.getfield 28, 3) := by decide +kernel
theorem dX4_feed_49 : decode cX4_feed 49 = .ok (.iload_n 1, 1) := by decide +kernel
theorem dX4_feed_50 : decode cX4_feed 50 = .ok (.bipush 8, 2) := by decide +kernel
theorem dX4_feed_52 : decode cX4_feed 52 = .ok (.iload_n 3, 1) := by decide +kernel
theorem dX4_feed_53 : decode cX4_feed 53 = .ok (.imul, 1) := by decide +kernel
theorem dX4_feed_54 : decode cX4_feed 54 = .ok (.ishr, 1) := by decide +kernel
theorem dX4_feed_55 : decode cX4_feed 55 = .ok (.sipush 255, 3) := by decide +kernel
theorem dX4_feed_58 : decode cX4_feed 58 = .ok (.iand, 1) := by decide +kernel
theorem dX4_feed_59 : decode cX4_feed 59 = .ok (.invokevirtual 185, 3) := by decide +kernel
theorem dX4_feed_62 : decode cX4_feed 62 = .ok (.iinc 3 (-1), 3) := by decide +kernel
theorem dX4_feed_65 : decode cX4_feed 65 = .ok (.goto (-24), 3) := by decide +kernel
theorem dX4_feed_68 : decode cX4_feed 68 = .ok (.aload_n 0, 1) := by decide +kernel
theorem dX4_feed_69 : decode cX4_feed 69 = .ok (.getfield 28, 3) := by decide +kernel
theorem dX4_feed_72 : decode cX4_feed 72 = .ok (.getfield 182, 3) := by decide +kernel
theorem dX4_feed_75 : decode cX4_feed 75 = .ok (.ireturn, 1) := by decide +kernel
theorem dX4_wipe_0 : decode cX4_wipe 0 = .ok (.aload_n 0, 1) := by decide +kernel
theorem dX4_wipe_1 : decode cX4_wipe 1 = .ok (.getfield 28, 3) := by decide +kernel
theorem dX4_wipe_4 : decode cX4_wipe 4 = .ok (.getfield 182, 3) := by decide +kernel
theorem dX4_wipe_7 : decode cX4_wipe 7 = .ok (.istore_n 1, 1) := by decide +kernel
theorem dX4_wipe_8 : decode cX4_wipe 8 = .ok (.aload_n 0, 1) := by decide +kernel
theorem dX4_wipe_9 : decode cX4_wipe 9 = .ok (.getfield 28, 3) := by decide +kernel
theorem dX4_wipe_12 : decode cX4_wipe 12 = .ok (.iconst 0, 1) := by decide +kernel
theorem dX4_wipe_13 : decode cX4_wipe 13 = .ok (.putfield 182, 3) := by decide +kernel
theorem dX4_wipe_16 : decode cX4_wipe 16 = .ok (.iload_n 1, 1) := by decide +kernel
theorem dX4_wipe_17 : decode cX4_wipe 17 = .ok (.ireturn, 1) := by decide +kernel
theorem dX4_house_0 : decode cX4_house 0 = .ok (.aload_n 0, 1) := by decide +kernel
theorem dX4_house_1 : decode cX4_house 1 = .ok (.getfield 19, 3) := by decide +kernel
theorem dX4_house_4 : decode cX4_house 4 = .ok (.aload_n 0, 1) := by decide +kernel
theorem dX4_house_5 : decode cX4_house 5 = .ok (.getfield 12, 3) := by decide +kernel
theorem dX4_house_8 : decode cX4_house 8 = .ok (.invokevirtual 154, 3) := by decide +kernel
theorem dX4_house_11 : decode cX4_house 11 = .ok (.aload_n 0, 1) := by decide +kernel
theorem dX4_house_12 : decode cX4_house 12 = .ok (.getfield 28, 3) := by decide +kernel
theorem dX4_house_15 : decode cX4_house 15 = .ok (.aload_n 0, 1) := by decide +kernel
theorem dX4_house_16 : decode cX4_house 16 = .ok (.getfield 19, 3) := by decide +kernel
theorem dX4_house_19 : decode cX4_house 19 = .ok (.invokevirtual 188, 3) := by decide +kernel
theorem dX4_house_22 : decode cX4_house 22 = .ok (.istore_n 1, 1) := by decide +kernel
theorem dX4_house_23 : decode cX4_house 23 = .ok (.iload_n 1, 1) := by decide +kernel
theorem dX4_house_24 : decode cX4_house 24 = .ok (.ifCond .lt 14, 3) := by decide +kernel
theorem dX4_house_27 : decode cX4_house 27 = .ok (.aload_n 0, 1) := by decide +kernel
theorem dX4_house_28 : decode cX4_house 28 = .ok (.getfield 12, 3) := by decide +kernel
theorem dX4_house_31 : decode cX4_house 31 = .ok (.aload_n 0, 1) := by decide +kernel
theorem dX4_house_32 : decode cX4_house 32 = .ok (.getfield 19, 3) := by decide +kernel
theorem dX4_house_35 : decode cX4_house 35 = .ok (.invokevirtual 154, 3) := by decide +kernel
theorem dX4_house_38 : decode cX4_house 38 = .ok (.aload_n 0, 1) := by decide +kernel
theorem dX4_house_39 : decode cX4_house 39 = .ok (.getfield 28, 3) := by decide +kernel
theorem dX4_house_42 : decode cX4_house 42 = .ok (.iconst 0, 1) := by decide +kernel
theorem dX4_house_43 : decode cX4_house 43 = .ok (.putfield 182, 3) := by decide +kernel
theorem dX4_house_46 : decode cX4_house 46 = .ok (.iload_n 1, 1) := by decide +kernel
theorem dX4_house_47 : decode cX4_house 47 = .ok (.ireturn, 1) := by decide +kernel
theorem dX4_sheet_0 : decode cX4_sheet 0 = .ok (.aload_n 0, 1) := by decide +kernel
theorem dX4_sheet_1 : decode cX4_sheet 1 = .ok (.iload_n 1, 1) := by decide +kernel
theorem dX4_sheet_2 : decode cX4_sheet 2 = .ok (.invokevirtual 192, 3) := by decide +kernel
theorem dX4_sheet_5 : decode cX4_sheet 5 = .ok (.astore 4, 2) := by decide +kernel
theorem dX4_sheet_7 : decode cX4_sheet 7 = .ok (.aload 4, 2) := by decide +kernel
theorem dX4_sheet_9 : decode cX4_sheet 9 = .ok (.ifnull 25, 3) := by decide +kernel
theorem dX4_sheet_12 : decode cX4_sheet 12 = .ok (.iload_n 2, 1) := by decide +kernel
theorem dX4_sheet_13 : decode cX4_sheet 13 = .ok (.ifCond .eq 28, 3) := by decide +kernel
theorem dX4_sheet_16 : decode cX4_sheet 16 = .ok (.iload_n 2, 1) := by decide +kernel
theorem dX4_sheet_17 : decode cX4_sheet 17 = .ok (.bipush 8, 2) := by decide +kernel
theorem dX4_sheet_19 : decode cX4_sheet 19 = .ok (.if_icmp .eq 22, 3) := by decide +kernel
theorem dX4_sheet_22 : decode cX4_sheet 22 = .ok (.iload_n 2, 1) := by decide +kernel
theorem dX4_sheet_23 : decode cX4_sheet 23 = .ok (.bipush 16, 2) := by decide +kernel
theorem dX4_sheet_25 : decode cX4_sheet 25 = .ok (.if_icmp .eq 16, 3) := by decide +kernel
theorem dX4_sheet_28 : decode cX4_sheet 28 = .ok (.iload_n 2, 1) := by decide +kernel
theorem dX4_sheet_29 : decode cX4_sheet 29 = .ok (.bipush 64, 2) := by decide +kernel
theorem dX4_sheet_31 : decode cX4_sheet 31 = .ok (.if_icmp .eq 10, 3) := by decide +kernel
theorem dX4_sheet_34 : decode cX4_sheet 34 = .ok (.aload_n 0, 1) := by decide +kernel
theorem dX4_sheet_35 : decode cX4_sheet 35 = .ok (.ldc 51, 2) := by decide +kernel
theorem dX4_sheet_37 : decode cX4_sheet 37 = .ok (.invokevirtual 52, 3) := by decide +kernel
theorem dX4_sheet_40 : decode cX4_sheet 40 = .ok (.ireturn, 1) := by decide +kernel
theorem dX4_sheet_41 : decode cX4_sheet 41 = .ok (.iload_n 3, 1) := by decide +kernel
theorem dX4_sheet_42 : decode cX4_sheet 42 = .ok (.ifCond .ge 10, 3) := by decide +kernel
theorem dX4_sheet_45 : decode cX4_sheet 45 = .ok (.aload_n 0, 1) := by decide +kernel
theorem dX4_sheet_46 : decode cX4_sheet 46 = .ok (.ldc 196, 2) := by decide +kernel
theorem dX4_sheet_48 : decode cX4_sheet 48 = .ok (.invokevirtual 52, 3) := by decide +kernel
theorem dX4_sheet_51 : decode cX4_sheet 51 = .ok (.ireturn, 1) := by decide +kernel
theorem dX4_sheet_52 : decode cX4_sheet 52 = .ok (.iload_n 3, 1) := by decide +kernel
theorem dX4_sheet_53 : decode cX4_sheet 53 = .ok (.bipush 40, 2) := by decide +kernel
theorem dX4_sheet_55 : decode cX4_sheet 55 = .ok (.if_icmp .le 10, 3) := by decide +kernel
theorem dX4_sheet_58 : decode cX4_sheet 58 = .ok (.aload_n 0, 1) := by decide +kernel
theorem dX4_sheet_59 : decode cX4_sheet 59 = .ok (.ldc 51, 2) := by decide +kernel
theorem dX4_sheet_61 : decode cX4_sheet 61 = .ok (.invokevirtual 52, 3) := by decide +kernel
theorem dX4_sheet_64 : decode cX4_sheet 64 = .ok (.ireturn, 1) := by decide +kernel
theorem dX4_sheet_65 : decode cX4_sheet 65 = .ok (.aload 4, 2) := by decide +kernel
theorem dX4_sheet_67 : decode cX4_sheet 67 = .ok (.iload_n 2, 1) := by decide +kernel
theorem dX4_sheet_68 : decode cX4_sheet 68 = .ok (.iload_n 3, 1) := by decide +kernel
theorem dX4_sheet_69 : decode cX4_sheet 69 = .ok (.invokevirtual 197, 3) := by decide +kernel
theorem dX4_sheet_72 : decode cX4_sheet 72 = .ok (.ireturn, 1) := by decide +kernel
theorem dX4_write_0 : decode cX4_write 0 = .ok (.aload_n 0, 1) := by decide +kernel
theorem dX4_write_1 : decode cX4_write 1 = .ok (.iload_n 1, 1) := by decide +kernel
theorem dX4_write_2 : decode cX4_write 2 = .ok (.invokevirtual 192, 3) := by decide +kernel
theorem dX4_write_5 : decode cX4_write 5 = .ok (.astore 5, 2) := by decide +kernel
theorem dX4_write_7 : decode cX4_write 7 = .ok (.aload 5, 2) := by decide +kernel
theorem dX4_write_9 : decode cX4_write 9 = .ok (.ifnonnull 11, 3) := by decide +kernel
theorem dX4_write_12 : decode cX4_write 12 = .ok (.aload_n 0, 1) := by decide +kernel
theorem dX4_write_13 : decode cX4_write 13 = .ok (.ldc 51, 2) := by decide +kernel
theorem dX4_write_15 : decode cX4_write 15 = .ok (.invokevirtual 52, 3) := by decide +kernel
theorem dX4_write_18 : decode cX4_write 18 = .ok (.i2l, 1) := by decide +kernel
theorem dX4_write_19 : decode cX4_write 19 = .ok (.lreturn, 1) := by decide +kernel
theorem dX4_write_20 : decode cX4_write 20 = .ok (.aload 5, 2) := by decide +kernel
theorem dX4_write_22 : decode cX4_write 22 = .ok (.invokevirtual 200, 3) := by decide +kernel
theorem dX4_write_25 : decode cX4_write 25 = .ok (.ifCond .eq 11, 3) := by decide +kernel
theorem dX4_write_28 : decode cX4_write 28 = .ok (.aload_n 0, 1) := by decide +kernel
theorem dX4_write_29 : decode cX4_write 29 = .ok (.ldc 204, 2) := by decide +kernel
theorem dX4_write_31 : decode cX4_write 31 = .ok (.invokevirtual 52, 3) := by decide +kernel
theorem dX4_write_34 : decode cX4_write 34 = .ok (.i2l, 1) := by decide +kernel
theorem dX4_write_35 : decode cX4_write 35 = .ok (.lreturn, 1) := by decide +kernel
theorem dX4_write_36 : decode cX4_write 36 = .ok (.iload_n 2, 1) := by decide +kernel
theorem dX4_write_37 : decode cX4_write 37 = .ok (.iconst 0, 1) := by decide +kernel
theorem dX4_write_38 : decode cX4_write 38 = .ok (.aload 5, 2) := by decide +kernel
theorem dX4_write_40 : decode cX4_write 40 = .ok (.getfield 205, 3) := by decide +kernel
theorem dX4_write_43 : decode cX4_write 43 = .ok (.iconst 1, 1) := by decide +kernel
theorem dX4_write_44 : decode cX4_write 44 = .ok (.isub, 1) := by decide +kernel
theorem dX4_write_45 : decode cX4_write 45 = .ok (.invokestatic 47, 3) := by decide +kernel
theorem dX4_write_48 : decode cX4_write 48 = .ok (.ifCond .ne 11, 3) := by decide +kernel
theorem dX4_write_51 : decode cX4_write 51 = .ok (.aload_n 0, 1) := by decide +kernel
theorem dX4_write_52 : decode cX4_write 52 = .ok (.ldc 51, 2) := by decide +kernel
theorem dX4_write_54 : decode cX4_write 54 = .ok (.invokevirtual 52, 3) := by decide +kernel
theorem dX4_write_57 : decode cX4_write 57 = .ok (.i2l, 1) := by decide +kernel
theorem dX4_write_58 : decode cX4_write 58 = .ok (.lreturn, 1) := by decide +kernel
theorem dX4_write_59 : decode cX4_write 59 = .ok (.aload 5, 2) := by decide +kernel
theorem dX4_write_61 : decode cX4_write 61 = .ok (.getfield 208, 3) := by decide +kernel
theorem dX4_write_64 : decode cX4_write 64 = .ok (.iload_n 2, 1) := by decide +kernel
theorem dX4_write_65 : decode cX4_write 65 = .ok (.laload, 1) := by decide +kernel
theorem dX4_write_66 : decode cX4_write 66 = .ok (.lstore 6, 2) := by decide +kernel
theorem dX4_write_68 : decode cX4_write 68 = .ok (.aload 5, 2) := by decide +kernel
theorem dX4_write_70 : decode cX4_write 70 = .ok (.iload_n 2, 1) := by decide +kernel
theorem dX4_write_71 : decode cX4_write 71 = .ok (.lload_n 3, 1) := by decide +kernel
theorem dX4_write_72 : decode cX4_write 72 = .ok (.invokevirtual 212, 3) := by decide +kernel
theorem dX4_write_75 : decode cX4_write 75 = .ok (.lload 6, 2) := by decide +kernel
theorem dX4_write_77 : decode cX4_write 77 = .ok (.lreturn, 1) := by decide +kernel
theorem dX4_copy_0 : decode cX4_copy 0 = .ok (.aload_n 0, 1) := by decide +kernel
theorem dX4_copy_1 : decode cX4_copy 1 = .ok (.iload_n 1, 1) := by decide +kernel
theorem dX4_copy_2 : decode cX4_copy 2 = .ok (.invokevirtual 192, 3) := by decide +kernel
theorem dX4_copy_5 : decode cX4_copy 5 = .ok (.astore 6, 2) := by decide +kernel
theorem dX4_copy_7 : decode cX4_copy 7 = .ok (.aload_n 0, 1) := by decide +kernel
theorem dX4_copy_8 : decode cX4_copy 8 = .ok (.iload_n 3, 1) := by decide +kernel
theorem dX4_copy_9 : decode cX4_copy 9 = .ok (.invokevirtual 192, 3) := by decide +kernel
theorem dX4_copy_12 : decode cX4_copy 12 = .ok (.astore 7, 2) := by decide +kernel
theorem dX4_copy_14 : decode cX4_copy 14 = .ok (.aload 6, 2) := by decide +kernel
theorem dX4_copy_16 : decode cX4_copy 16 = .ok (.ifnull 8, 3) := by decide +kernel
theorem dX4_copy_19 : decode cX4_copy 19 = .ok (.aload 7, 2) := by decide +kernel
theorem dX4_copy_21 : decode cX4_copy 21 = .ok (.ifnonnull 10, 3) := by decide +kernel
theorem dX4_copy_24 : decode cX4_copy 24 = .ok (.aload_n 0, 1) := by decide +kernel
theorem dX4_copy_25 : decode cX4_copy 25 = .ok (.ldc 51, 2) := by decide +kernel
theorem dX4_copy_27 : decode cX4_copy 27 = .ok (.invokevirtual 52, 3) := by decide +kernel
theorem dX4_copy_30 : decode cX4_copy 30 = .ok (.ireturn, 1) := by decide +kernel
theorem dX4_copy_31 : decode cX4_copy 31 = .ok (.aload 6, 2) := by decide +kernel
theorem dX4_copy_33 : decode cX4_copy 33 = .ok (.invokevirtual 200, 3) := by decide +kernel
theorem dX4_copy_36 : decode cX4_copy 36 = .ok (.ifCond .ne 11, 3) := by decide +kernel
theorem dX4_copy_39 : decode cX4_copy 39 = .ok (.aload 7, 2) := by decide +kernel
theorem dX4_copy_41 : decode cX4_copy 41 = .ok (.invokevirtual 200, 3) := by decide +kernel
theorem dX4_copy_44 : decode cX4_copy 44 = .ok (.ifCond .eq 10, 3) := by decide +kernel
theorem dX4_copy_47 : decode cX4_copy 47 = .ok (.aload_n 0, 1) := by decide +kernel
theorem dX4_copy_48 : decode cX4_copy 48 = .ok (.ldc 204, 2) := by decide +kernel
theorem dX4_copy_50 : decode cX4_copy 50 = .ok (.invokevirtual 52, 3) := by decide +kernel
theorem dX4_copy_53 : decode cX4_copy 53 = .ok (.ireturn, 1) := by decide +kernel
theorem dX4_copy_54 : decode cX4_copy 54 = .ok (.aload 6, 2) := by decide +kernel
theorem dX4_copy_56 : decode cX4_copy 56 = .ok (.getfield 215, 3) := by decide +kernel
theorem dX4_copy_59 : decode cX4_copy 59 = .ok (.aload 7, 2) := by decide +kernel
theorem dX4_copy_61 : decode cX4_copy 61 = .ok (.getfield 215, 3) := by decide +kernel
theorem dX4_copy_64 : decode cX4_copy 64 = .ok (.if_icmp .eq 10, 3) := by decide +kernel
theorem dX4_copy_67 : decode cX4_copy 67 = .ok (.aload_n 0, 1) := by decide +kernel
theorem dX4_copy_68 : decode cX4_copy 68 = .ok (.ldc 136, 2) := by decide +kernel
theorem dX4_copy_70 : decode cX4_copy 70 = .ok (.invokevirtual 52, 3) := by decide +kernel
theorem dX4_copy_73 : decode cX4_copy 73 = .ok (.ireturn, 1) := by decide +kernel
theorem dX4_copy_74 : decode cX4_copy 74 = .ok (.aload 6, 2) := by decide +kernel
theorem dX4_copy_76 : decode cX4_copy 76 = .ok (.iload_n 2, 1) := by decide +kernel
theorem dX4_copy_77 : decode cX4_copy 77 = .ok (.iload 5, 2) := by decide +kernel
theorem dX4_copy_79 : decode cX4_copy 79 = .ok (.invokevirtual 218, 3) := by decide +kernel
theorem dX4_copy_82 : decode cX4_copy 82 = .ok (.ifCond .eq 15, 3) := by decide +kernel
theorem dX4_copy_85 : decode cX4_copy 85 = .ok (.aload 7, 2) := by decide +kernel
theorem dX4_copy_87 : decode cX4_copy 87 = .ok (.iload 4, 2) := by decide +kernel
theorem dX4_copy_89 : decode cX4_copy 89 = .ok (.iload 5, 2) := by decide +kernel
theorem dX4_copy_91 : decode cX4_copy 91 = .ok (.invokevirtual 218, 3) := by decide +kernel
theorem dX4_copy_94 : decode cX4_copy 94 = .ok (.ifCond .ne 10, 3) := by decide +kernel
theorem dX4_copy_97 : decode cX4_copy 97 = .ok (.aload_n 0, 1) := by decide +kernel
theorem dX4_copy_98 : decode cX4_copy 98 = .ok (.ldc 51, 2) := by decide +kernel
theorem dX4_copy_100 : decode cX4_copy 100 = .ok (.invokevirtual 52, 3) := by decide +kernel
theorem dX4_copy_103 : decode cX4_copy 103 = .ok (.ireturn, 1) := by decide +kernel
theorem dX4_copy_104 : decode cX4_copy 104 = .ok (.aload 6, 2) := by decide +kernel
theorem dX4_copy_106 : decode cX4_copy 106 = .ok (.getfield 208, 3) := by decide +kernel
theorem dX4_copy_109 : decode cX4_copy 109 = .ok (.iload_n 2, 1) := by decide +kernel
theorem dX4_copy_110 : decode cX4_copy 110 = .ok (.aload 7, 2) := by decide +kernel
theorem dX4_copy_112 : decode cX4_copy 112 = .ok (.getfield 208, 3) := by decide +kernel
theorem dX4_copy_115 : decode cX4_copy 115 = .ok (.iload 4, 2) := by decide +kernel
theorem dX4_copy_117 : decode cX4_copy 117 = .ok (.iload 5, 2) := by decide +kernel
theorem dX4_copy_119 : decode cX4_copy 119 = .ok (.invokestatic 221, 3) := by decide +kernel
theorem dX4_copy_122 : decode cX4_copy 122 = .ok (.iload 5, 2) := by decide +kernel
theorem dX4_copy_124 : decode cX4_copy 124 = .ok (.ireturn, 1) := by decide +kernel
theorem dX4_lays_0 : decode cX4_lays 0 = .ok (.aload_n 0, 1) := by decide +kernel
theorem dX4_lays_1 : decode cX4_lays 1 = .ok (.iload_n 1, 1) := by decide +kernel
theorem dX4_lays_2 : decode cX4_lays 2 = .ok (.invokevirtual 192, 3) := by decide +kernel
theorem dX4_lays_5 : decode cX4_lays 5 = .ok (.astore_n 2, 1) := by decide +kernel
theorem dX4_lays_6 : decode cX4_lays 6 = .ok (.aload_n 2, 1) := by decide +kernel
theorem dX4_lays_7 : decode cX4_lays 7 = .ok (.ifnonnull 10, 3) := by decide +kernel
theorem dX4_lays_10 : decode cX4_lays 10 = .ok (.aload_n 0, 1) := by decide +kernel
theorem dX4_lays_11 : decode cX4_lays 11 = .ok (.ldc 51, 2) := by decide +kernel
theorem dX4_lays_13 : decode cX4_lays 13 = .ok (.invokevirtual 52, 3) := by decide +kernel
theorem dX4_lays_16 : decode cX4_lays 16 = .ok (.ireturn, 1) := by decide +kernel
theorem dX4_lays_17 : decode cX4_lays 17 = .ok (.aload_n 2, 1) := by decide +kernel
theorem dX4_lays_18 : decode cX4_lays 18 = .ok (.invokevirtual 200, 3) := by decide +kernel
theorem dX4_lays_21 : decode cX4_lays 21 = .ok (.ifCond .eq 10, 3) := by decide +kernel
theorem dX4_lays_24 : decode cX4_lays 24 = .ok (.aload_n 0, 1) := by decide +kernel
theorem dX4_lays_25 : decode cX4_lays 25 = .ok (.ldc 204, 2) := by decide +kernel
theorem dX4_lays_27 : decode cX4_lays 27 = .ok (.invokevirtual 52, 3) := by decide +kernel
theorem dX4_lays_30 : decode cX4_lays 30 = .ok (.ireturn, 1) := by decide +kernel
theorem dX4_lays_31 : decode cX4_lays 31 = .ok (.iconst 0, 1) := by decide +kernel
theorem dX4_lays_32 : decode cX4_lays 32 = .ok (.istore_n 3, 1) := by decide +kernel
theorem dX4_lays_33 : decode cX4_lays 33 = .ok (.iconst 0, 1) := by decide +kernel
theorem dX4_lays_34 : decode cX4_lays 34 = .ok (.istore 4, 2) := by decide +kernel
theorem dX4_lays_36 : decode cX4_lays 36 = .ok (.iload 4, 2) := by decide +kernel
theorem dX4_lays_38 : decode cX4_lays 38 = .ok (.bipush 8, 2) := by decide +kernel
theorem dX4_lays_40 : decode cX4_lays 40 = .ok (.if_icmp .ge 59, 3) := by decide +kernel
theorem dX4_lays_43 : decode cX4_lays 43 = .ok (.iload 4, 2) := by decide +kernel
theorem dX4_lays_45 : decode cX4_lays 45 = .ok (.aload_n 2, 1) := by decide +kernel
theorem dX4_lays_46 : decode cX4_lays 46 = .ok (.getfield 205, 3) := by decide +kernel
theorem dX4_lays_49 : decode cX4_lays 49 = .ok (.if_icmp .ge 50, 3) := by decide +kernel
theorem dX4_lays_52 : decode cX4_lays 52 = .ok (.aload_n 2, 1) := by decide +kernel
theorem dX4_lays_53 : decode cX4_lays 53 = .ok (.getfield 208, 3) := by decide +kernel
theorem dX4_lays_56 : decode cX4_lays 56 = .ok (.iload 4, 2) := by decide +kernel
theorem dX4_lays_58 : decode cX4_lays 58 = .ok (.laload, 1) := by decide +kernel
theorem dX4_lays_59 : decode cX4_lays 59 = .ok (.lstore 5, 2) := by decide +kernel
theorem dX4_lays_61 : decode cX4_lays 61 = .ok (.lload 5, 2) := by decide +kernel
theorem dX4_lays_63 : decode cX4_lays 63 = .ok (.lconst 0, 1) := by decide +kernel
theorem dX4_lays_64 : decode cX4_lays 64 = .ok (.lcmp, 1) := by decide +kernel
theorem dX4_lays_65 : decode cX4_lays 65 = .ok (.ifCond .lt 28, 3) := by decide +kernel
theorem dX4_lays_68 : decode cX4_lays 68 = .ok (.lload 5, 2) := by decide +kernel
theorem dX4_lays_70 : decode cX4_lays 70 = .ok (.ldc2_w 227, 3) := by decide +kernel
theorem dX4_lays_73 : decode cX4_lays 73 = .ok (.lcmp, 1) := by decide +kernel
theorem dX4_lays_74 : decode cX4_lays 74 = .ok (.ifCond .gt 19, 3) := by decide +kernel
theorem dX4_lays_77 : decode cX4_lays 77 = .ok (.aload_n 0, 1) := by decide +kernel
theorem dX4_lays_78 : decode cX4_lays 78 = .ok (.getfield 12, 3) := by decide +kernel
theorem dX4_lays_81 : decode cX4_lays 81 = .ok (.getfield 67, 3) := by decide +kernel
theorem dX4_lays_84 : decode cX4_lays 84 = .ok (.iload 4, 2) := by decide +kernel
theorem dX4_lays_86 : decode cX4_lays 86 = .ok (.lload 5, 2) := by decide +kernel
theorem dX4_lays_88 : decode cX4_lays 88 = .ok (.l2i, 1) := by decide +kernel
theorem dX4_lays_89 : decode cX4_lays 89 = .ok (.iastore, 1) := by decide +kernel
theorem dX4_lays_90 : decode cX4_lays 90 = .ok (.iinc 3 1, 3) := by decide +kernel
theorem dX4_lays_93 : decode cX4_lays 93 = .ok (.iinc 4 1, 3) := by decide +kernel
theorem dX4_lays_96 : decode cX4_lays 96 = .ok (.goto (-60), 3) := by decide +kernel
theorem dX4_lays_99 : decode cX4_lays 99 = .ok (.iload_n 3, 1) := by decide +kernel
theorem dX4_lays_100 : decode cX4_lays 100 = .ok (.ireturn, 1) := by decide +kernel
theorem dX4_book_0 : decode cX4_book 0 = .ok (.aload_n 0, 1) := by decide +kernel
theorem dX4_book_1 : decode cX4_book 1 = .ok (.iload_n 1, 1) := by decide +kernel
theorem dX4_book_2 : decode cX4_book 2 = .ok (.invokevirtual 192, 3) := by decide +kernel
theorem dX4_book_5 : decode cX4_book 5 = .ok (.astore_n 3, 1) := by decide +kernel
theorem dX4_book_6 : decode cX4_book 6 = .ok (.aload_n 3, 1) := by decide +kernel
theorem dX4_book_7 : decode cX4_book 7 = .ok (.ifnonnull 10, 3) := by decide +kernel
theorem dX4_book_10 : decode cX4_book 10 = .ok (.aload_n 0, 1) := by decide +kernel
theorem dX4_book_11 : decode cX4_book 11 = .ok (.ldc 51, 2) := by decide +kernel
theorem dX4_book_13 : decode cX4_book 13 = .ok (.invokevirtual 52, 3) := by decide +kernel
theorem dX4_book_16 : decode cX4_book 16 = .ok (.ireturn, 1) := by decide +kernel
theorem dX4_book_17 : decode cX4_book 17 = .ok (.aload_n 3, 1) := by decide +kernel
theorem dX4_book_18 : decode cX4_book 18 = .ok (.invokevirtual 200, 3) := by decide +kernel
theorem dX4_book_21 : decode cX4_book 21 = .ok (.ifCond .eq 10, 3) := by decide +kernel
theorem dX4_book_24 : decode cX4_book 24 = .ok (.aload_n 0, 1) := by decide +kernel
theorem dX4_book_25 : decode cX4_book 25 = .ok (.ldc 204, 2) := by decide +kernel
theorem dX4_book_27 : decode cX4_book 27 = .ok (.invokevirtual 52, 3) := by decide +kernel
theorem dX4_book_30 : decode cX4_book 30 = .ok (.ireturn, 1) := by decide +kernel
theorem dX4_book_31 : decode cX4_book 31 = .ok (.iload_n 2, 1) := by decide +kernel
theorem dX4_book_32 : decode cX4_book 32 = .ok (.invokestatic 60, 3) := by decide +kernel
theorem dX4_book_35 : decode cX4_book 35 = .ok (.ifCond .ne 10, 3) := by decide +kernel
theorem dX4_book_38 : decode cX4_book 38 = .ok (.aload_n 0, 1) := by decide +kernel
theorem dX4_book_39 : decode cX4_book 39 = .ok (.ldc 51, 2) := by decide +kernel
theorem dX4_book_41 : decode cX4_book 41 = .ok (.invokevirtual 52, 3) := by decide +kernel
theorem dX4_book_44 : decode cX4_book 44 = .ok (.ireturn, 1) := by decide +kernel
theorem dX4_book_45 : decode cX4_book 45 = .ok (.aload_n 0, 1) := by decide +kernel
theorem dX4_book_46 : decode cX4_book 46 = .ok (.getfield 19, 3) := by decide +kernel
theorem dX4_book_49 : decode cX4_book 49 = .ok (.aload_n 0, 1) := by decide +kernel
theorem dX4_book_50 : decode cX4_book 50 = .ok (.getfield 12, 3) := by decide +kernel
theorem dX4_book_53 : decode cX4_book 53 = .ok (.invokevirtual 154, 3) := by decide +kernel
theorem dX4_book_56 : decode cX4_book 56 = .ok (.iconst 0, 1) := by decide +kernel
theorem dX4_book_57 : decode cX4_book 57 = .ok (.istore 4, 2) := by decide +kernel
theorem dX4_book_59 : decode cX4_book 59 = .ok (.iload 4, 2) := by decide +kernel
theorem dX4_book_61 : decode cX4_book 61 = .ok (.aload_n 3, 1) := by decide +kernel
theorem dX4_book_62 : decode cX4_book 62 = .ok (.getfield 205, 3) := by decide +kernel
theorem dX4_book_65 : decode cX4_book 65 = .ok (.if_icmp .ge 32, 3) := by decide +kernel
theorem dX4_book_68 : decode cX4_book 68 = .ok (.aload_n 3, 1) := by decide +kernel
theorem dX4_book_69 : decode cX4_book 69 = .ok (.iload 4, 2) := by decide +kernel
theorem dX4_book_71 : decode cX4_book 71 = .ok (.aload_n 0, 1) := by decide +kernel
theorem dX4_book_72 : decode cX4_book 72 = .ok (.getfield 19, 3) := by decide +kernel
theorem dX4_book_75 : decode cX4_book 75 = .ok (.getfield 67, 3) := by decide +kernel
theorem dX4_book_78 : decode cX4_book 78 = .ok (.iload_n 2, 1) := by decide +kernel
theorem dX4_book_79 : decode cX4_book 79 = .ok (.iaload, 1) := by decide +kernel
theorem dX4_book_80 : decode cX4_book 80 = .ok (.i2l, 1) := by decide +kernel
theorem dX4_book_81 : decode cX4_book 81 = .ok (.invokevirtual 212, 3) := by decide +kernel
theorem dX4_book_84 : decode cX4_book 84 = .ok (.aload_n 0, 1) := by decide +kernel
theorem dX4_book_85 : decode cX4_book 85 = .ok (.getfield 19, 3) := by decide +kernel
theorem dX4_book_88 : decode cX4_book 88 = .ok (.invokevirtual 158, 3) := by decide +kernel
theorem dX4_book_91 : decode cX4_book 91 = .ok (.iinc 4 1, 3) := by decide +kernel
theorem dX4_book_94 : decode cX4_book 94 = .ok (.goto (-35), 3) := by decide +kernel
theorem dX4_book_97 : decode cX4_book 97 = .ok (.aload_n 3, 1) := by decide +kernel
theorem dX4_book_98 : decode cX4_book 98 = .ok (.getfield 205, 3) := by decide +kernel
theorem dX4_book_101 : decode cX4_book 101 = .ok (.ireturn, 1) := by decide +kernel
theorem dX4_read_0 : decode cX4_read 0 = .ok (.aload_n 0, 1) := by decide +kernel
theorem dX4_read_1 : decode cX4_read 1 = .ok (.iload_n 1, 1) := by decide +kernel
theorem dX4_read_2 : decode cX4_read 2 = .ok (.invokevirtual 192, 3) := by decide +kernel
theorem dX4_read_5 : decode cX4_read 5 = .ok (.astore 4, 2) := by decide +kernel
theorem dX4_read_7 : decode cX4_read 7 = .ok (.aload 4, 2) := by decide +kernel
theorem dX4_read_9 : decode cX4_read 9 = .ok (.ifnonnull 10, 3) := by decide +kernel
theorem dX4_read_12 : decode cX4_read 12 = .ok (.aload_n 0, 1) := by decide +kernel
theorem dX4_read_13 : decode cX4_read 13 = .ok (.ldc 51, 2) := by decide +kernel
theorem dX4_read_15 : decode cX4_read 15 = .ok (.invokevirtual 52, 3) := by decide +kernel
theorem dX4_read_18 : decode cX4_read 18 = .ok (.ireturn, 1) := by decide +kernel
theorem dX4_read_19 : decode cX4_read 19 = .ok (.aload 4, 2) := by decide +kernel
theorem dX4_read_21 : decode cX4_read 21 = .ok (.invokevirtual 200, 3) := by decide +kernel
theorem dX4_read_24 : decode cX4_read 24 = .ok (.ifCond .eq 10, 3) := by decide +kernel
theorem dX4_read_27 : decode cX4_read 27 = .ok (.aload_n 0, 1) := by decide +kernel
theorem dX4_read_28 : decode cX4_read 28 = .ok (.ldc 204, 2) := by decide +kernel
theorem dX4_read_30 : decode cX4_read 30 = .ok (.invokevirtual 52, 3) := by decide +kernel
theorem dX4_read_33 : decode cX4_read 33 = .ok (.ireturn, 1) := by decide +kernel
theorem dX4_read_34 : decode cX4_read 34 = .ok (.iload_n 2, 1) := by decide +kernel
theorem dX4_read_35 : decode cX4_read 35 = .ok (.invokestatic 60, 3) := by decide +kernel
theorem dX4_read_38 : decode cX4_read 38 = .ok (.ifCond .eq 11, 3) := by decide +kernel
theorem dX4_read_41 : decode cX4_read 41 = .ok (.aload_n 0, 1) := by decide +kernel
theorem dX4_read_42 : decode cX4_read 42 = .ok (.iload_n 3, 1) := by decide +kernel
theorem dX4_read_43 : decode cX4_read 43 = .ok (.invokevirtual 99, 3) := by decide +kernel
theorem dX4_read_46 : decode cX4_read 46 = .ok (.ifCond .ne 10, 3) := by decide +kernel
theorem dX4_read_49 : decode cX4_read 49 = .ok (.aload_n 0, 1) := by decide +kernel
theorem dX4_read_50 : decode cX4_read 50 = .ok (.ldc 51, 2) := by decide +kernel
theorem dX4_read_52 : decode cX4_read 52 = .ok (.invokevirtual 52, 3) := by decide +kernel
theorem dX4_read_55 : decode cX4_read 55 = .ok (.ireturn, 1) := by decide +kernel
theorem dX4_read_56 : decode cX4_read 56 = .ok (.iconst 0, 1) := by decide +kernel
theorem dX4_read_57 : decode cX4_read 57 = .ok (.istore 5, 2) := by decide +kernel
theorem dX4_read_59 : decode cX4_read 59 = .ok (.iconst 0, 1) := by decide +kernel
theorem dX4_read_60 : decode cX4_read 60 = .ok (.istore 6, 2) := by decide +kernel
theorem dX4_read_62 : decode cX4_read 62 = .ok (.iload 6, 2) := by decide +kernel
theorem dX4_read_64 : decode cX4_read 64 = .ok (.iconst 5, 1) := by decide +kernel
theorem dX4_read_65 : decode cX4_read 65 = .ok (.if_icmp .gt 71, 3) := by decide +kernel
theorem dX4_read_68 : decode cX4_read 68 = .ok (.iconst 0, 1) := by decide +kernel
theorem dX4_read_69 : decode cX4_read 69 = .ok (.istore 7, 2) := by decide +kernel
theorem dX4_read_71 : decode cX4_read 71 = .ok (.iload 7, 2) := by decide +kernel
theorem dX4_read_73 : decode cX4_read 73 = .ok (.bipush 8, 2) := by decide +kernel
theorem dX4_read_75 : decode cX4_read 75 = .ok (.if_icmp .ge 55, 3) := by decide +kernel
theorem dX4_read_78 : decode cX4_read 78 = .ok (.aload_n 0, 1) := by decide +kernel
theorem dX4_read_79 : decode cX4_read 79 = .ok (.getfield 19, 3) := by decide +kernel
theorem dX4_read_82 : decode cX4_read 82 = .ok (.aload_n 0, 1) := by decide +kernel
theorem dX4_read_83 : decode cX4_read 83 = .ok (.getfield 12, 3) := by decide +kernel
theorem dX4_read_86 : decode cX4_read 86 = .ok (.invokevirtual 154, 3) := by decide +kernel
theorem dX4_read_89 : decode cX4_read 89 = .ok (.aload_n 0, 1) := by decide +kernel
theorem dX4_read_90 : decode cX4_read 90 = .ok (.getfield 19, 3) := by decide +kernel
theorem dX4_read_93 : decode cX4_read 93 = .ok (.getfield 102, 3) := by decide +kernel
theorem dX4_read_96 : decode cX4_read 96 = .ok (.iload_n 3, 1) := by decide +kernel
theorem dX4_read_97 : decode cX4_read 97 = .ok (.iload 6, 2) := by decide +kernel
theorem dX4_read_99 : decode cX4_read 99 = .ok (.iastore, 1) := by decide +kernel
theorem dX4_read_100 : decode cX4_read 100 = .ok (.aload_n 0, 1) := by decide +kernel
theorem dX4_read_101 : decode cX4_read 101 = .ok (.getfield 19, 3) := by decide +kernel
theorem dX4_read_104 : decode cX4_read 104 = .ok (.getfield 111, 3) := by decide +kernel
theorem dX4_read_107 : decode cX4_read 107 = .ok (.iload_n 3, 1) := by decide +kernel
theorem dX4_read_108 : decode cX4_read 108 = .ok (.iload 7, 2) := by decide +kernel
theorem dX4_read_110 : decode cX4_read 110 = .ok (.iastore, 1) := by decide +kernel
theorem dX4_read_111 : decode cX4_read 111 = .ok (.aload_n 0, 1) := by decide +kernel
theorem dX4_read_112 : decode cX4_read 112 = .ok (.aload 4, 2) := by decide +kernel
theorem dX4_read_114 : decode cX4_read 114 = .ok (.iload_n 2, 1) := by decide +kernel
theorem dX4_read_115 : decode cX4_read 115 = .ok (.invokevirtual 229, 3) := by decide +kernel
theorem dX4_read_118 : decode cX4_read 118 = .ok (.ifCond .eq 6, 3) := by decide +kernel
theorem dX4_read_121 : decode cX4_read 121 = .ok (.iinc 5 1, 3) := by decide +kernel
theorem dX4_read_124 : decode cX4_read 124 = .ok (.iinc 7 1, 3) := by decide +kernel
theorem dX4_read_127 : decode cX4_read 127 = .ok (.goto (-56), 3) := by decide +kernel
theorem dX4_read_130 : decode cX4_read 130 = .ok (.iinc 6 1, 3) := by decide +kernel
theorem dX4_read_133 : decode cX4_read 133 = .ok (.goto (-71), 3) := by decide +kernel
theorem dX4_read_136 : decode cX4_read 136 = .ok (.iload 5, 2) := by decide +kernel
theorem dX4_read_138 : decode cX4_read 138 = .ok (.ireturn, 1) := by decide +kernel
theorem dX4_image_0 : decode cX4_image 0 = .ok (.aload_n 0, 1) := by decide +kernel
theorem dX4_image_1 : decode cX4_image 1 = .ok (.getfield 16, 3) := by decide +kernel
theorem dX4_image_4 : decode cX4_image 4 = .ok (.aload_n 0, 1) := by decide +kernel
theorem dX4_image_5 : decode cX4_image 5 = .ok (.getfield 12, 3) := by decide +kernel
theorem dX4_image_8 : decode cX4_image 8 = .ok (.invokevirtual 154, 3) := by decide +kernel
theorem dX4_image_11 : decode cX4_image 11 = .ok (.aload_n 0, 1) := by decide +kernel
theorem dX4_image_12 : decode cX4_image 12 = .ok (.iconst 1, 1) := by decide +kernel
theorem dX4_image_13 : decode cX4_image 13 = .ok (.putfield 42, 3) := by decide +kernel
theorem dX4_image_16 : decode cX4_image 16 = .ok (.iconst 1, 1) := by decide +kernel
theorem dX4_image_17 : decode cX4_image 17 = .ok (.ireturn, 1) := by decide +kernel
theorem dX4_undo_0 : decode cX4_undo 0 = .ok (.aload_n 0, 1) := by decide +kernel
theorem dX4_undo_1 : decode cX4_undo 1 = .ok (.getfield 42, 3) := by decide +kernel
theorem dX4_undo_4 : decode cX4_undo 4 = .ok (.ifCond .ne 10, 3) := by decide +kernel
theorem dX4_undo_7 : decode cX4_undo 7 = .ok (.aload_n 0, 1) := by decide +kernel
theorem dX4_undo_8 : decode cX4_undo 8 = .ok (.ldc 161, 2) := by decide +kernel
theorem dX4_undo_10 : decode cX4_undo 10 = .ok (.invokevirtual 52, 3) := by decide +kernel
theorem dX4_undo_13 : decode cX4_undo 13 = .ok (.ireturn, 1) := by decide +kernel
theorem dX4_undo_14 : decode cX4_undo 14 = .ok (.aload_n 0, 1) := by decide +kernel
theorem dX4_undo_15 : decode cX4_undo 15 = .ok (.getfield 12, 3) := by decide +kernel
theorem dX4_undo_18 : decode cX4_undo 18 = .ok (.aload_n 0, 1) := by decide +kernel
theorem dX4_undo_19 : decode cX4_undo 19 = .ok (.getfield 16, 3) := by decide +kernel
theorem dX4_undo_22 : decode cX4_undo 22 = .ok (.invokevirtual 154, 3) := by decide +kernel
theorem dX4_undo_25 : decode cX4_undo 25 = .ok (.aload_n 0, 1) := by decide +kernel
theorem dX4_undo_26 : decode cX4_undo 26 = .ok (.getfield 12, 3) := by decide +kernel
theorem dX4_undo_29 : decode cX4_undo 29 = .ok (.getfield 92, 3) := by decide +kernel
theorem dX4_undo_32 : decode cX4_undo 32 = .ok (.ireturn, 1) := by decide +kernel
theorem dX4_tear_0 : decode cX4_tear 0 = .ok (.aload_n 0, 1) := by decide +kernel
theorem dX4_tear_1 : decode cX4_tear 1 = .ok (.getfield 42, 3) := by decide +kernel
theorem dX4_tear_4 : decode cX4_tear 4 = .ok (.ifCond .eq 7, 3) := by decide +kernel
theorem dX4_tear_7 : decode cX4_tear 7 = .ok (.iconst 1, 1) := by decide +kernel
theorem dX4_tear_8 : decode cX4_tear 8 = .ok (.goto 4, 3) := by decide +kernel
theorem dX4_tear_11 : decode cX4_tear 11 = .ok (.iconst 0, 1) := by decide +kernel
theorem dX4_tear_12 : decode cX4_tear 12 = .ok (.istore_n 1, 1) := by decide +kernel
theorem dX4_tear_13 : decode cX4_tear 13 = .ok (.aload_n 0, 1) := by decide +kernel
theorem dX4_tear_14 : decode cX4_tear 14 = .ok (.iconst 0, 1) := by decide +kernel
theorem dX4_tear_15 : decode cX4_tear 15 = .ok (.putfield 42, 3) := by decide +kernel
theorem dX4_tear_18 : decode cX4_tear 18 = .ok (.iload_n 1, 1) := by decide +kernel
theorem dX4_tear_19 : decode cX4_tear 19 = .ok (.ireturn, 1) := by decide +kernel
theorem dX4_count_0 : decode cX4_count 0 = .ok (.iload_n 1, 1) := by decide +kernel
theorem dX4_count_1 : decode cX4_count 1 = .ok (.tableswitch 63 0 3 #[31, 39, 47, 55], 31) := by decide +kernel
theorem dX4_count_32 : decode cX4_count 32 = .ok (.aload_n 0, 1) := by decide +kernel
theorem dX4_count_33 : decode cX4_count 33 = .ok (.getfield 12, 3) := by decide +kernel
theorem dX4_count_36 : decode cX4_count 36 = .ok (.getfield 92, 3) := by decide +kernel
theorem dX4_count_39 : decode cX4_count 39 = .ok (.ireturn, 1) := by decide +kernel
theorem dX4_count_40 : decode cX4_count 40 = .ok (.aload_n 0, 1) := by decide +kernel
theorem dX4_count_41 : decode cX4_count 41 = .ok (.getfield 28, 3) := by decide +kernel
theorem dX4_count_44 : decode cX4_count 44 = .ok (.getfield 182, 3) := by decide +kernel
theorem dX4_count_47 : decode cX4_count 47 = .ok (.ireturn, 1) := by decide +kernel
theorem dX4_count_48 : decode cX4_count 48 = .ok (.aload_n 0, 1) := by decide +kernel
theorem dX4_count_49 : decode cX4_count 49 = .ok (.getfield 12, 3) := by decide +kernel
theorem dX4_count_52 : decode cX4_count 52 = .ok (.invokevirtual 233, 3) := by decide +kernel
theorem dX4_count_55 : decode cX4_count 55 = .ok (.ireturn, 1) := by decide +kernel
theorem dX4_count_56 : decode cX4_count 56 = .ok (.aload_n 0, 1) := by decide +kernel
theorem dX4_count_57 : decode cX4_count 57 = .ok (.getfield 12, 3) := by decide +kernel
theorem dX4_count_60 : decode cX4_count 60 = .ok (.invokevirtual 236, 3) := by decide +kernel
theorem dX4_count_63 : decode cX4_count 63 = .ok (.ireturn, 1) := by decide +kernel
theorem dX4_count_64 : decode cX4_count 64 = .ok (.aload_n 0, 1) := by decide +kernel
theorem dX4_count_65 : decode cX4_count 65 = .ok (.ldc 51, 2) := by decide +kernel
theorem dX4_count_67 : decode cX4_count 67 = .ok (.invokevirtual 52, 3) := by decide +kernel
theorem dX4_count_70 : decode cX4_count 70 = .ok (.ireturn, 1) := by decide +kernel
theorem dX4_status_0 : decode cX4_status 0 = .ok (.iload_n 1, 1) := by decide +kernel
theorem dX4_status_1 : decode cX4_status 1 = .ok (.iconst (-1), 1) := by decide +kernel
theorem dX4_status_2 : decode cX4_status 2 = .ok (.bipush 6, 2) := by decide +kernel
theorem dX4_status_4 : decode cX4_status 4 = .ok (.invokestatic 47, 3) := by decide +kernel
theorem dX4_status_7 : decode cX4_status 7 = .ok (.ifCond .ne 10, 3) := by decide +kernel
theorem dX4_status_10 : decode cX4_status 10 = .ok (.aload_n 0, 1) := by decide +kernel
theorem dX4_status_11 : decode cX4_status 11 = .ok (.ldc 51, 2) := by decide +kernel
theorem dX4_status_13 : decode cX4_status 13 = .ok (.invokevirtual 52, 3) := by decide +kernel
theorem dX4_status_16 : decode cX4_status 16 = .ok (.ireturn, 1) := by decide +kernel
theorem dX4_status_17 : decode cX4_status 17 = .ok (.iload_n 1, 1) := by decide +kernel
theorem dX4_status_18 : decode cX4_status 18 = .ok (.ifCond .lt 10, 3) := by decide +kernel
theorem dX4_status_21 : decode cX4_status 21 = .ok (.aload_n 0, 1) := by decide +kernel
theorem dX4_status_22 : decode cX4_status 22 = .ok (.getfield 38, 3) := by decide +kernel
theorem dX4_status_25 : decode cX4_status 25 = .ok (.iload_n 1, 1) := by decide +kernel
theorem dX4_status_26 : decode cX4_status 26 = .ok (.iaload, 1) := by decide +kernel
theorem dX4_status_27 : decode cX4_status 27 = .ok (.ireturn, 1) := by decide +kernel
theorem dX4_status_28 : decode cX4_status 28 = .ok (.iconst 0, 1) := by decide +kernel
theorem dX4_status_29 : decode cX4_status 29 = .ok (.istore_n 2, 1) := by decide +kernel
theorem dX4_status_30 : decode cX4_status 30 = .ok (.iconst 0, 1) := by decide +kernel
theorem dX4_status_31 : decode cX4_status 31 = .ok (.istore_n 3, 1) := by decide +kernel
theorem dX4_status_32 : decode cX4_status 32 = .ok (.iload_n 3, 1) := by decide +kernel
theorem dX4_status_33 : decode cX4_status 33 = .ok (.bipush 7, 2) := by decide +kernel
theorem dX4_status_35 : decode cX4_status 35 = .ok (.if_icmp .ge 18, 3) := by decide +kernel
theorem dX4_status_38 : decode cX4_status 38 = .ok (.iload_n 2, 1) := by decide +kernel
theorem dX4_status_39 : decode cX4_status 39 = .ok (.aload_n 0, 1) := by decide +kernel
theorem dX4_status_40 : decode cX4_status 40 = .ok (.getfield 38, 3) := by decide +kernel
theorem dX4_status_43 : decode cX4_status 43 = .ok (.iload_n 3, 1) := by decide +kernel
theorem dX4_status_44 : decode cX4_status 44 = .ok (.iaload, 1) := by decide +kernel
theorem dX4_status_45 : decode cX4_status 45 = .ok (.iadd, 1) := by decide +kernel
theorem dX4_status_46 : decode cX4_status 46 = .ok (.istore_n 2, 1) := by decide +kernel
theorem dX4_status_47 : decode cX4_status 47 = .ok (.iinc 3 1, 3) := by decide +kernel
theorem dX4_status_50 : decode cX4_status 50 = .ok (.goto (-18), 3) := by decide +kernel
theorem dX4_status_53 : decode cX4_status 53 = .ok (.iload_n 2, 1) := by decide +kernel
theorem dX4_status_54 : decode cX4_status 54 = .ok (.ireturn, 1) := by decide +kernel
theorem dX4_finding_0 : decode cX4_finding 0 = .ok (.ldc 51, 2) := by decide +kernel
theorem dX4_finding_2 : decode cX4_finding 2 = .ok (.iload_n 1, 1) := by decide +kernel
theorem dX4_finding_3 : decode cX4_finding 3 = .ok (.isub, 1) := by decide +kernel
theorem dX4_finding_4 : decode cX4_finding 4 = .ok (.istore_n 2, 1) := by decide +kernel
theorem dX4_finding_5 : decode cX4_finding 5 = .ok (.iload_n 2, 1) := by decide +kernel
theorem dX4_finding_6 : decode cX4_finding 6 = .ok (.ifCond .lt 19, 3) := by decide +kernel
theorem dX4_finding_9 : decode cX4_finding 9 = .ok (.iload_n 2, 1) := by decide +kernel
theorem dX4_finding_10 : decode cX4_finding 10 = .ok (.bipush 7, 2) := by decide +kernel
theorem dX4_finding_12 : decode cX4_finding 12 = .ok (.if_icmp .ge 13, 3) := by decide +kernel
theorem dX4_finding_15 : decode cX4_finding 15 = .ok (.aload_n 0, 1) := by decide +kernel
theorem dX4_finding_16 : decode cX4_finding 16 = .ok (.getfield 38, 3) := by decide +kernel
theorem dX4_finding_19 : decode cX4_finding 19 = .ok (.iload_n 2, 1) := by decide +kernel
theorem dX4_finding_20 : decode cX4_finding 20 = .ok (.dup2, 1) := by decide +kernel
theorem dX4_finding_21 : decode cX4_finding 21 = .ok (.iaload, 1) := by decide +kernel
theorem dX4_finding_22 : decode cX4_finding 22 = .ok (.iconst 1, 1) := by decide +kernel
theorem dX4_finding_23 : decode cX4_finding 23 = .ok (.iadd, 1) := by decide +kernel
theorem dX4_finding_24 : decode cX4_finding 24 = .ok (.iastore, 1) := by decide +kernel
theorem dX4_finding_25 : decode cX4_finding 25 = .ok (.iload_n 1, 1) := by decide +kernel
theorem dX4_finding_26 : decode cX4_finding 26 = .ok (.ireturn, 1) := by decide +kernel
theorem dX4_within_0 : decode cX4_within 0 = .ok (.iload_n 0, 1) := by decide +kernel
theorem dX4_within_1 : decode cX4_within 1 = .ok (.iload_n 1, 1) := by decide +kernel
theorem dX4_within_2 : decode cX4_within 2 = .ok (.if_icmp .lt 12, 3) := by decide +kernel
theorem dX4_within_5 : decode cX4_within 5 = .ok (.iload_n 0, 1) := by decide +kernel
theorem dX4_within_6 : decode cX4_within 6 = .ok (.iload_n 2, 1) := by decide +kernel
theorem dX4_within_7 : decode cX4_within 7 = .ok (.if_icmp .gt 7, 3) := by decide +kernel
theorem dX4_within_10 : decode cX4_within 10 = .ok (.iconst 1, 1) := by decide +kernel
theorem dX4_within_11 : decode cX4_within 11 = .ok (.goto 4, 3) := by decide +kernel
theorem dX4_within_14 : decode cX4_within 14 = .ok (.iconst 0, 1) := by decide +kernel
theorem dX4_within_15 : decode cX4_within 15 = .ok (.ireturn, 1) := by decide +kernel
theorem dX4_isRoom_0 : decode cX4_isRoom 0 = .ok (.iload_n 0, 1) := by decide +kernel
theorem dX4_isRoom_1 : decode cX4_isRoom 1 = .ok (.iconst 0, 1) := by decide +kernel
theorem dX4_isRoom_2 : decode cX4_isRoom 2 = .ok (.bipush 7, 2) := by decide +kernel
theorem dX4_isRoom_4 : decode cX4_isRoom 4 = .ok (.invokestatic 47, 3) := by decide +kernel
theorem dX4_isRoom_7 : decode cX4_isRoom 7 = .ok (.ireturn, 1) := by decide +kernel
theorem dX4_isMemory_0 : decode cX4_isMemory 0 = .ok (.iload_n 0, 1) := by decide +kernel
theorem dX4_isMemory_1 : decode cX4_isMemory 1 = .ok (.iconst 0, 1) := by decide +kernel
theorem dX4_isMemory_2 : decode cX4_isMemory 2 = .ok (.bipush 9, 2) := by decide +kernel
theorem dX4_isMemory_4 : decode cX4_isMemory 4 = .ok (.invokestatic 47, 3) := by decide +kernel
theorem dX4_isMemory_7 : decode cX4_isMemory 7 = .ok (.ireturn, 1) := by decide +kernel
theorem dX4_isKind_0 : decode cX4_isKind 0 = .ok (.iload_n 0, 1) := by decide +kernel
theorem dX4_isKind_1 : decode cX4_isKind 1 = .ok (.iconst 0, 1) := by decide +kernel
theorem dX4_isKind_2 : decode cX4_isKind 2 = .ok (.iconst 5, 1) := by decide +kernel
theorem dX4_isKind_3 : decode cX4_isKind 3 = .ok (.invokestatic 47, 3) := by decide +kernel
theorem dX4_isKind_6 : decode cX4_isKind 6 = .ok (.ireturn, 1) := by decide +kernel
theorem dX4_sheetAt_0 : decode cX4_sheetAt 0 = .ok (.iload_n 1, 1) := by decide +kernel
theorem dX4_sheetAt_1 : decode cX4_sheetAt 1 = .ok (.iconst 0, 1) := by decide +kernel
theorem dX4_sheetAt_2 : decode cX4_sheetAt 2 = .ok (.iconst 3, 1) := by decide +kernel
theorem dX4_sheetAt_3 : decode cX4_sheetAt 3 = .ok (.invokestatic 47, 3) := by decide +kernel
theorem dX4_sheetAt_6 : decode cX4_sheetAt 6 = .ok (.ifCond .eq 12, 3) := by decide +kernel
theorem dX4_sheetAt_9 : decode cX4_sheetAt 9 = .ok (.aload_n 0, 1) := by decide +kernel
theorem dX4_sheetAt_10 : decode cX4_sheetAt 10 = .ok (.getfield 34, 3) := by decide +kernel
theorem dX4_sheetAt_13 : decode cX4_sheetAt 13 = .ok (.iload_n 1, 1) := by decide +kernel
theorem dX4_sheetAt_14 : decode cX4_sheetAt 14 = .ok (.aaload, 1) := by decide +kernel
theorem dX4_sheetAt_15 : decode cX4_sheetAt 15 = .ok (.goto 4, 3) := by decide +kernel
theorem dX4_sheetAt_18 : decode cX4_sheetAt 18 = .ok (.aconst_null, 1) := by decide +kernel
theorem dX4_sheetAt_19 : decode cX4_sheetAt 19 = .ok (.areturn, 1) := by decide +kernel
theorem dX4_isDuster_0 : decode cX4_isDuster 0 = .ok (.iload_n 1, 1) := by decide +kernel
theorem dX4_isDuster_1 : decode cX4_isDuster 1 = .ok (.iconst 0, 1) := by decide +kernel
theorem dX4_isDuster_2 : decode cX4_isDuster 2 = .ok (.aload_n 0, 1) := by decide +kernel
theorem dX4_isDuster_3 : decode cX4_isDuster 3 = .ok (.getfield 12, 3) := by decide +kernel
theorem dX4_isDuster_6 : decode cX4_isDuster 6 = .ok (.getfield 92, 3) := by decide +kernel
theorem dX4_isDuster_9 : decode cX4_isDuster 9 = .ok (.iconst 1, 1) := by decide +kernel
theorem dX4_isDuster_10 : decode cX4_isDuster 10 = .ok (.isub, 1) := by decide +kernel
theorem dX4_isDuster_11 : decode cX4_isDuster 11 = .ok (.invokestatic 47, 3) := by decide +kernel
theorem dX4_isDuster_14 : decode cX4_isDuster 14 = .ok (.ireturn, 1) := by decide +kernel
theorem dX4_lookAhead_0 : decode cX4_lookAhead 0 = .ok (.aload_n 0, 1) := by decide +kernel
theorem dX4_lookAhead_1 : decode cX4_lookAhead 1 = .ok (.getfield 19, 3) := by decide +kernel
theorem dX4_lookAhead_4 : decode cX4_lookAhead 4 = .ok (.aload_n 0, 1) := by decide +kernel
theorem dX4_lookAhead_5 : decode cX4_lookAhead 5 = .ok (.getfield 12, 3) := by decide +kernel
theorem dX4_lookAhead_8 : decode cX4_lookAhead 8 = .ok (.invokevirtual 154, 3) := by decide +kernel
theorem dX4_lookAhead_11 : decode cX4_lookAhead 11 = .ok (.aload_n 0, 1) := by decide +kernel
theorem dX4_lookAhead_12 : decode cX4_lookAhead 12 = .ok (.getfield 19, 3) := by decide +kernel
theorem dX4_lookAhead_15 : decode cX4_lookAhead 15 = .ok (.iload_n 1, 1) := by decide +kernel
theorem dX4_lookAhead_16 : decode cX4_lookAhead 16 = .ok (.invokevirtual 147, 3) := by decide +kernel
theorem dX4_lookAhead_19 : decode cX4_lookAhead 19 = .ok (.return_, 1) := by decide +kernel
theorem dX4_dustAheadAfter_0 : decode cX4_dustAheadAfter 0 = .ok (.aload_n 0, 1) := by decide +kernel
theorem dX4_dustAheadAfter_1 : decode cX4_dustAheadAfter 1 = .ok (.getfield 19, 3) := by decide +kernel
theorem dX4_dustAheadAfter_4 : decode cX4_dustAheadAfter 4 = .ok (.iload_n 1, 1) := by decide +kernel
theorem dX4_dustAheadAfter_5 : decode cX4_dustAheadAfter 5 = .ok (.invokevirtual 147, 3) := by decide +kernel
theorem dX4_dustAheadAfter_8 : decode cX4_dustAheadAfter 8 = .ok (.aload_n 0, 1) := by decide +kernel
theorem dX4_dustAheadAfter_9 : decode cX4_dustAheadAfter 9 = .ok (.getfield 19, 3) := by decide +kernel
theorem dX4_dustAheadAfter_12 : decode cX4_dustAheadAfter 12 = .ok (.invokevirtual 76, 3) := by decide +kernel
theorem dX4_dustAheadAfter_15 : decode cX4_dustAheadAfter 15 = .ok (.ireturn, 1) := by decide +kernel
theorem dX4_firstWith_0 : decode cX4_firstWith 0 = .ok (.aload_n 0, 1) := by decide +kernel
theorem dX4_firstWith_1 : decode cX4_firstWith 1 = .ok (.getfield 19, 3) := by decide +kernel
theorem dX4_firstWith_4 : decode cX4_firstWith 4 = .ok (.aload_n 0, 1) := by decide +kernel
theorem dX4_firstWith_5 : decode cX4_firstWith 5 = .ok (.getfield 12, 3) := by decide +kernel
theorem dX4_firstWith_8 : decode cX4_firstWith 8 = .ok (.invokevirtual 154, 3) := by decide +kernel
theorem dX4_firstWith_11 : decode cX4_firstWith 11 = .ok (.iconst 0, 1) := by decide +kernel
theorem dX4_firstWith_12 : decode cX4_firstWith 12 = .ok (.istore 4, 2) := by decide +kernel
theorem dX4_firstWith_14 : decode cX4_firstWith 14 = .ok (.iload 4, 2) := by decide +kernel
theorem dX4_firstWith_16 : decode cX4_firstWith 16 = .ok (.bipush 100, 2) := by decide +kernel
theorem dX4_firstWith_18 : decode cX4_firstWith 18 = .ok (.if_icmp .gt 29, 3) := by decide +kernel
theorem dX4_firstWith_21 : decode cX4_firstWith 21 = .ok (.aload_n 1, 1) := by decide +kernel
theorem dX4_firstWith_22 : decode cX4_firstWith 22 = .ok (.iload_n 2, 1) := by decide +kernel
theorem dX4_firstWith_23 : decode cX4_firstWith 23 = .ok (.iaload, 1) := by decide +kernel
theorem dX4_firstWith_24 : decode cX4_firstWith 24 = .ok (.iload_n 3, 1) := by decide +kernel
theorem dX4_firstWith_25 : decode cX4_firstWith 25 = .ok (.ishr, 1) := by decide +kernel
theorem dX4_firstWith_26 : decode cX4_firstWith 26 = .ok (.iconst 1, 1) := by decide +kernel
theorem dX4_firstWith_27 : decode cX4_firstWith 27 = .ok (.iand, 1) := by decide +kernel
theorem dX4_firstWith_28 : decode cX4_firstWith 28 = .ok (.ifCond .eq 6, 3) := by decide +kernel
theorem dX4_firstWith_31 : decode cX4_firstWith 31 = .ok (.iload 4, 2) := by decide +kernel
theorem dX4_firstWith_33 : decode cX4_firstWith 33 = .ok (.ireturn, 1) := by decide +kernel
theorem dX4_firstWith_34 : decode cX4_firstWith 34 = .ok (.aload_n 0, 1) := by decide +kernel
theorem dX4_firstWith_35 : decode cX4_firstWith 35 = .ok (.getfield 19, 3) := by decide +kernel
theorem dX4_firstWith_38 : decode cX4_firstWith 38 = .ok (.invokevirtual 158, 3) := by decide +kernel
theorem dX4_firstWith_41 : decode cX4_firstWith 41 = .ok (.iinc 4 1, 3) := by decide +kernel
theorem dX4_firstWith_44 : decode cX4_firstWith 44 = .ok (.goto (-30), 3) := by decide +kernel
theorem dX4_firstWith_47 : decode cX4_firstWith 47 = .ok (.aload_n 0, 1) := by decide +kernel
theorem dX4_firstWith_48 : decode cX4_firstWith 48 = .ok (.ldc 161, 2) := by decide +kernel
theorem dX4_firstWith_50 : decode cX4_firstWith 50 = .ok (.invokevirtual 52, 3) := by decide +kernel
theorem dX4_firstWith_53 : decode cX4_firstWith 53 = .ok (.ireturn, 1) := by decide +kernel
theorem dX4_withMostMemories_0 : decode cX4_withMostMemories 0 = .ok (.iconst 0, 1) := by decide +kernel
theorem dX4_withMostMemories_1 : decode cX4_withMostMemories 1 = .ok (.istore 5, 2) := by decide +kernel
theorem dX4_withMostMemories_3 : decode cX4_withMostMemories 3 = .ok (.iconst (-1), 1) := by decide +kernel
theorem dX4_withMostMemories_4 : decode cX4_withMostMemories 4 = .ok (.istore 6, 2) := by decide +kernel
theorem dX4_withMostMemories_6 : decode cX4_withMostMemories 6 = .ok (.iconst 0, 1) := by decide +kernel
theorem dX4_withMostMemories_7 : decode cX4_withMostMemories 7 = .ok (.istore 7, 2) := by decide +kernel
theorem dX4_withMostMemories_9 : decode cX4_withMostMemories 9 = .ok (.iload 7, 2) := by decide +kernel
theorem dX4_withMostMemories_11 : decode cX4_withMostMemories 11 = .ok (.iload_n 3, 1) := by decide +kernel
theorem dX4_withMostMemories_12 : decode cX4_withMostMemories 12 = .ok (.if_icmp .gt 58, 3) := by decide +kernel
theorem dX4_withMostMemories_15 : decode cX4_withMostMemories 15 = .ok (.aload_n 0, 1) := by decide +kernel
theorem dX4_withMostMemories_16 : decode cX4_withMostMemories 16 = .ok (.getfield 19, 3) := by decide +kernel
theorem dX4_withMostMemories_19 : decode cX4_withMostMemories 19 = .ok (.aload_n 0, 1) := by decide +kernel
theorem dX4_withMostMemories_20 : decode cX4_withMostMemories 20 = .ok (.getfield 12, 3) := by decide +kernel
theorem dX4_withMostMemories_23 : decode cX4_withMostMemories 23 = .ok (.invokevirtual 154, 3) := by decide +kernel
theorem dX4_withMostMemories_26 : decode cX4_withMostMemories 26 = .ok (.aload_n 1, 1) := by decide +kernel
theorem dX4_withMostMemories_27 : decode cX4_withMostMemories 27 = .ok (.iload_n 2, 1) := by decide +kernel
theorem dX4_withMostMemories_28 : decode cX4_withMostMemories 28 = .ok (.iload 7, 2) := by decide +kernel
theorem dX4_withMostMemories_30 : decode cX4_withMostMemories 30 = .ok (.iastore, 1) := by decide +kernel
theorem dX4_withMostMemories_31 : decode cX4_withMostMemories 31 = .ok (.aload_n 0, 1) := by decide +kernel
theorem dX4_withMostMemories_32 : decode cX4_withMostMemories 32 = .ok (.getfield 19, 3) := by decide +kernel
theorem dX4_withMostMemories_35 : decode cX4_withMostMemories 35 = .ok (.iload 4, 2) := by decide +kernel
theorem dX4_withMostMemories_37 : decode cX4_withMostMemories 37 = .ok (.invokevirtual 147, 3) := by decide +kernel
theorem dX4_withMostMemories_40 : decode cX4_withMostMemories 40 = .ok (.aload_n 0, 1) := by decide +kernel
theorem dX4_withMostMemories_41 : decode cX4_withMostMemories 41 = .ok (.getfield 19, 3) := by decide +kernel
theorem dX4_withMostMemories_44 : decode cX4_withMostMemories 44 = .ok (.invokevirtual 233, 3) := by decide +kernel
theorem dX4_withMostMemories_47 : decode cX4_withMostMemories 47 = .ok (.istore 8, 2) := by decide +kernel
theorem dX4_withMostMemories_49 : decode cX4_withMostMemories 49 = .ok (.iload 8, 2) := by decide +kernel
theorem dX4_withMostMemories_51 : decode cX4_withMostMemories 51 = .ok (.iload 6, 2) := by decide +kernel
theorem dX4_withMostMemories_53 : decode cX4_withMostMemories 53 = .ok (.if_icmp .le 11, 3) := by decide +kernel
theorem dX4_withMostMemories_56 : decode cX4_withMostMemories 56 = .ok (.iload 8, 2) := by decide +kernel
theorem dX4_withMostMemories_58 : decode cX4_withMostMemories 58 = .ok (.istore 6, 2) := by decide +kernel
theorem dX4_withMostMemories_60 : decode cX4_withMostMemories 60 = .ok (.iload 7, 2) := by decide +kernel
theorem dX4_withMostMemories_62 : decode cX4_withMostMemories 62 = .ok (.istore 5, 2) := by decide +kernel
theorem dX4_withMostMemories_64 : decode cX4_withMostMemories 64 = .ok (.iinc 7 1, 3) := by decide +kernel
theorem dX4_withMostMemories_67 : decode cX4_withMostMemories 67 = .ok (.goto (-58), 3) := by decide +kernel
theorem dX4_withMostMemories_70 : decode cX4_withMostMemories 70 = .ok (.iload 5, 2) := by decide +kernel
theorem dX4_withMostMemories_72 : decode cX4_withMostMemories 72 = .ok (.ireturn, 1) := by decide +kernel
theorem dX4_aheadGoesAs_0 : decode cX4_aheadGoesAs 0 = .ok (.iconst 0, 1) := by decide +kernel
theorem dX4_aheadGoesAs_1 : decode cX4_aheadGoesAs 1 = .ok (.istore_n 3, 1) := by decide +kernel
theorem dX4_aheadGoesAs_2 : decode cX4_aheadGoesAs 2 = .ok (.iload_n 3, 1) := by decide +kernel
theorem dX4_aheadGoesAs_3 : decode cX4_aheadGoesAs 3 = .ok (.aload_n 1, 1) := by decide +kernel
theorem dX4_aheadGoesAs_4 : decode cX4_aheadGoesAs 4 = .ok (.getfield 205, 3) := by decide +kernel
theorem dX4_aheadGoesAs_7 : decode cX4_aheadGoesAs 7 = .ok (.if_icmp .ge 38, 3) := by decide +kernel
theorem dX4_aheadGoesAs_10 : decode cX4_aheadGoesAs 10 = .ok (.aload_n 1, 1) := by decide +kernel
theorem dX4_aheadGoesAs_11 : decode cX4_aheadGoesAs 11 = .ok (.getfield 208, 3) := by decide +kernel
theorem dX4_aheadGoesAs_14 : decode cX4_aheadGoesAs 14 = .ok (.iload_n 3, 1) := by decide +kernel
theorem dX4_aheadGoesAs_15 : decode cX4_aheadGoesAs 15 = .ok (.laload, 1) := by decide +kernel
theorem dX4_aheadGoesAs_16 : decode cX4_aheadGoesAs 16 = .ok (.aload_n 0, 1) := by decide +kernel
theorem dX4_aheadGoesAs_17 : decode cX4_aheadGoesAs 17 = .ok (.getfield 19, 3) := by decide +kernel
theorem dX4_aheadGoesAs_20 : decode cX4_aheadGoesAs 20 = .ok (.getfield 67, 3) := by decide +kernel
theorem dX4_aheadGoesAs_23 : decode cX4_aheadGoesAs 23 = .ok (.iload_n 2, 1) := by decide +kernel
theorem dX4_aheadGoesAs_24 : decode cX4_aheadGoesAs 24 = .ok (.iaload, 1) := by decide +kernel
theorem dX4_aheadGoesAs_25 : decode cX4_aheadGoesAs 25 = .ok (.i2l, 1) := by decide +kernel
theorem dX4_aheadGoesAs_26 : decode cX4_aheadGoesAs 26 = .ok (.lcmp, 1) := by decide +kernel
theorem dX4_aheadGoesAs_27 : decode cX4_aheadGoesAs 27 = .ok (.ifCond .eq 5, 3) := by decide +kernel
theorem dX4_aheadGoesAs_30 : decode cX4_aheadGoesAs 30 = .ok (.iconst 0, 1) := by decide +kernel
theorem dX4_aheadGoesAs_31 : decode cX4_aheadGoesAs 31 = .ok (.ireturn, 1) := by decide +kernel
theorem dX4_aheadGoesAs_32 : decode cX4_aheadGoesAs 32 = .ok (.aload_n 0, 1) := by decide +kernel
theorem dX4_aheadGoesAs_33 : decode cX4_aheadGoesAs 33 = .ok (.getfield 19, 3) := by decide +kernel
theorem dX4_aheadGoesAs_36 : decode cX4_aheadGoesAs 36 = .ok (.invokevirtual 158, 3) := by decide +kernel
theorem dX4_aheadGoesAs_39 : decode cX4_aheadGoesAs 39 = .ok (.iinc 3 1, 3) := by decide +kernel
theorem dX4_aheadGoesAs_42 : decode cX4_aheadGoesAs 42 = .ok (.goto (-40), 3) := by decide +kernel
theorem dX4_aheadGoesAs_45 : decode cX4_aheadGoesAs 45 = .ok (.iconst 1, 1) := by decide +kernel
theorem dX4_aheadGoesAs_46 : decode cX4_aheadGoesAs 46 = .ok (.ireturn, 1) := by decide +kernel
