theorem dX0_init_0 : decode cX0_init 0 = .ok (.aload_n 0, 1) := by decide +kernel
theorem dX0_init_1 : decode cX0_init 1 = .ok (.invokespecial 3, 3) := by decide +kernel
theorem dX0_init_4 : decode cX0_init 4 = .ok (.aload_n 0, 1) := by decide +kernel
theorem dX0_init_5 : decode cX0_init 5 = .ok (.bipush 8, 2) := by decide +kernel
theorem dX0_init_7 : decode cX0_init 7 = .ok (.newarray .int, 2) := by decide +kernel
theorem dX0_init_9 : decode cX0_init 9 = .ok (.putfield 9, 3) := by decide +kernel
theorem dX0_init_12 : decode cX0_init 12 = .ok (.aload_n 0, 1) := by decide +kernel
theorem dX0_init_13 : decode cX0_init 13 = .ok (.bipush 8, 2) := by decide +kernel
theorem dX0_init_15 : decode cX0_init 15 = .ok (.newarray .int, 2) := by decide +kernel
theorem dX0_init_17 : decode cX0_init 17 = .ok (.putfield 15, 3) := by decide +kernel
theorem dX0_init_20 : decode cX0_init 20 = .ok (.aload_n 0, 1) := by decide +kernel
theorem dX0_init_21 : decode cX0_init 21 = .ok (.bipush 8, 2) := by decide +kernel
theorem dX0_init_23 : decode cX0_init 23 = .ok (.newarray .int, 2) := by decide +kernel
theorem dX0_init_25 : decode cX0_init 25 = .ok (.putfield 18, 3) := by decide +kernel
theorem dX0_init_28 : decode cX0_init 28 = .ok (.aload_n 0, 1) := by decide +kernel
theorem dX0_init_29 : decode cX0_init 29 = .ok (.bipush 8, 2) := by decide +kernel
theorem dX0_init_31 : decode cX0_init 31 = .ok (.newarray .int, 2) := by decide +kernel
theorem dX0_init_33 : decode cX0_init 33 = .ok (.putfield 21, 3) := by decide +kernel
theorem dX0_init_36 : decode cX0_init 36 = .ok (.aload_n 0, 1) := by decide +kernel
theorem dX0_init_37 : decode cX0_init 37 = .ok (.bipush 8, 2) := by decide +kernel
theorem dX0_init_39 : decode cX0_init 39 = .ok (.newarray .int, 2) := by decide +kernel
theorem dX0_init_41 : decode cX0_init 41 = .ok (.putfield 24, 3) := by decide +kernel
theorem dX0_init_44 : decode cX0_init 44 = .ok (.aload_n 0, 1) := by decide +kernel
theorem dX0_init_45 : decode cX0_init 45 = .ok (.bipush 8, 2) := by decide +kernel
theorem dX0_init_47 : decode cX0_init 47 = .ok (.newarray .int, 2) := by decide +kernel
theorem dX0_init_49 : decode cX0_init 49 = .ok (.putfield 27, 3) := by decide +kernel
theorem dX0_init_52 : decode cX0_init 52 = .ok (.aload_n 0, 1) := by decide +kernel
theorem dX0_init_53 : decode cX0_init 53 = .ok (.iconst 0, 1) := by decide +kernel
theorem dX0_init_54 : decode cX0_init 54 = .ok (.putfield 30, 3) := by decide +kernel
theorem dX0_init_57 : decode cX0_init 57 = .ok (.aload_n 0, 1) := by decide +kernel
theorem dX0_init_58 : decode cX0_init 58 = .ok (.iconst 3, 1) := by decide +kernel
theorem dX0_init_59 : decode cX0_init 59 = .ok (.putfield 34, 3) := by decide +kernel
theorem dX0_init_62 : decode cX0_init 62 = .ok (.aload_n 0, 1) := by decide +kernel
theorem dX0_init_63 : decode cX0_init 63 = .ok (.iconst 0, 1) := by decide +kernel
theorem dX0_init_64 : decode cX0_init 64 = .ok (.putfield 37, 3) := by decide +kernel
theorem dX0_init_67 : decode cX0_init 67 = .ok (.iconst 0, 1) := by decide +kernel
theorem dX0_init_68 : decode cX0_init 68 = .ok (.istore_n 1, 1) := by decide +kernel
theorem dX0_init_69 : decode cX0_init 69 = .ok (.iload_n 1, 1) := by decide +kernel
theorem dX0_init_70 : decode cX0_init 70 = .ok (.bipush 8, 2) := by decide +kernel
theorem dX0_init_72 : decode cX0_init 72 = .ok (.if_icmp .ge 17, 3) := by decide +kernel
theorem dX0_init_75 : decode cX0_init 75 = .ok (.aload_n 0, 1) := by decide +kernel
theorem dX0_init_76 : decode cX0_init 76 = .ok (.getfield 9, 3) := by decide +kernel
theorem dX0_init_79 : decode cX0_init 79 = .ok (.iload_n 1, 1) := by decide +kernel
theorem dX0_init_80 : decode cX0_init 80 = .ok (.bipush 20, 2) := by decide +kernel
theorem dX0_init_82 : decode cX0_init 82 = .ok (.iastore, 1) := by decide +kernel
theorem dX0_init_83 : decode cX0_init 83 = .ok (.iinc 1 1, 3) := by decide +kernel
theorem dX0_init_86 : decode cX0_init 86 = .ok (.goto (-17), 3) := by decide +kernel
theorem dX0_init_89 : decode cX0_init 89 = .ok (.return_, 1) := by decide +kernel
theorem dX0_becomeAs_0 : decode cX0_becomeAs 0 = .ok (.aload_n 0, 1) := by decide +kernel
theorem dX0_becomeAs_1 : decode cX0_becomeAs 1 = .ok (.aload_n 1, 1) := by decide +kernel
theorem dX0_becomeAs_2 : decode cX0_becomeAs 2 = .ok (.getfield 30, 3) := by decide +kernel
theorem dX0_becomeAs_5 : decode cX0_becomeAs 5 = .ok (.putfield 30, 3) := by decide +kernel
theorem dX0_becomeAs_8 : decode cX0_becomeAs 8 = .ok (.aload_n 0, 1) := by decide +kernel
theorem dX0_becomeAs_9 : decode cX0_becomeAs 9 = .ok (.aload_n 1, 1) := by decide +kernel
theorem dX0_becomeAs_10 : decode cX0_becomeAs 10 = .ok (.getfield 34, 3) := by decide +kernel
theorem dX0_becomeAs_13 : decode cX0_becomeAs 13 = .ok (.putfield 34, 3) := by decide +kernel
theorem dX0_becomeAs_16 : decode cX0_becomeAs 16 = .ok (.aload_n 0, 1) := by decide +kernel
theorem dX0_becomeAs_17 : decode cX0_becomeAs 17 = .ok (.aload_n 1, 1) := by decide +kernel
theorem dX0_becomeAs_18 : decode cX0_becomeAs 18 = .ok (.getfield 37, 3) := by decide +kernel
theorem dX0_becomeAs_21 : decode cX0_becomeAs 21 = .ok (.putfield 37, 3) := by decide +kernel
theorem dX0_becomeAs_24 : decode cX0_becomeAs 24 = .ok (.aload_n 1, 1) := by decide +kernel
theorem dX0_becomeAs_25 : decode cX0_becomeAs 25 = .ok (.getfield 9, 3) := by decide +kernel
theorem dX0_becomeAs_28 : decode cX0_becomeAs 28 = .ok (.iconst 0, 1) := by decide +kernel
theorem dX0_becomeAs_29 : decode cX0_becomeAs 29 = .ok (.aload_n 0, 1) := by decide +kernel
theorem dX0_becomeAs_30 : decode cX0_becomeAs 30 = .ok (.getfield 9, 3) := by decide +kernel
theorem dX0_becomeAs_33 : decode cX0_becomeAs 33 = .ok (.iconst 0, 1) := by decide +kernel
theorem dX0_becomeAs_34 : decode cX0_becomeAs 34 = .ok (.bipush 8, 2) := by decide +kernel
theorem dX0_becomeAs_36 : decode cX0_becomeAs 36 = .ok (.invokestatic 40, 3) := by decide +kernel
theorem dX0_becomeAs_39 : decode cX0_becomeAs 39 = .ok (.aload_n 1, 1) := by decide +kernel
theorem dX0_becomeAs_40 : decode cX0_becomeAs 40 = .ok (.getfield 15, 3) := by decide +kernel
theorem dX0_becomeAs_43 : decode cX0_becomeAs 43 = .ok (.iconst 0, 1) := by decide +kernel
theorem dX0_becomeAs_44 : decode cX0_becomeAs 44 = .ok (.aload_n 0, 1) := by decide +kernel
theorem dX0_becomeAs_45 : decode cX0_becomeAs 45 = .ok (.getfield 15, 3) := by decide +kernel
theorem dX0_becomeAs_48 : decode cX0_becomeAs 48 = .ok (.iconst 0, 1) := by decide +kernel
theorem dX0_becomeAs_49 : decode cX0_becomeAs 49 = .ok (.bipush 8, 2) := by decide +kernel
theorem dX0_becomeAs_51 : decode cX0_becomeAs 51 = .ok (.invokestatic 40, 3) := by decide +kernel
theorem dX0_becomeAs_54 : decode cX0_becomeAs 54 = .ok (.aload_n 1, 1) := by decide +kernel
theorem dX0_becomeAs_55 : decode cX0_becomeAs 55 = .ok (.getfield 18, 3) := by decide +kernel
theorem dX0_becomeAs_58 : decode cX0_becomeAs 58 = .ok (.iconst 0, 1) := by decide +kernel
theorem dX0_becomeAs_59 : decode cX0_becomeAs 59 = .ok (.aload_n 0, 1) := by decide +kernel
theorem dX0_becomeAs_60 : decode cX0_becomeAs 60 = .ok (.getfield 18, 3) := by decide +kernel
theorem dX0_becomeAs_63 : decode cX0_becomeAs 63 = .ok (.iconst 0, 1) := by decide +kernel
theorem dX0_becomeAs_64 : decode cX0_becomeAs 64 = .ok (.bipush 8, 2) := by decide +kernel
theorem dX0_becomeAs_66 : decode cX0_becomeAs 66 = .ok (.invokestatic 40, 3) := by decide +kernel
theorem dX0_becomeAs_69 : decode cX0_becomeAs 69 = .ok (.aload_n 1, 1) := by decide +kernel
theorem dX0_becomeAs_70 : decode cX0_becomeAs 70 = .ok (.getfield 21, 3) := by decide +kernel
theorem dX0_becomeAs_73 : decode cX0_becomeAs 73 = .ok (.iconst 0, 1) := by decide +kernel
theorem dX0_becomeAs_74 : decode cX0_becomeAs 74 = .ok (.aload_n 0, 1) := by decide +kernel
theorem dX0_becomeAs_75 : decode cX0_becomeAs 75 = .ok (.getfield 21, 3) := by decide +kernel
theorem dX0_becomeAs_78 : decode cX0_becomeAs 78 = .ok (.iconst 0, 1) := by decide +kernel
theorem dX0_becomeAs_79 : decode cX0_becomeAs 79 = .ok (.bipush 8, 2) := by decide +kernel
theorem dX0_becomeAs_81 : decode cX0_becomeAs 81 = .ok (.invokestatic 40, 3) := by decide +kernel
theorem dX0_becomeAs_84 : decode cX0_becomeAs 84 = .ok (.aload_n 1, 1) := by decide +kernel
theorem dX0_becomeAs_85 : decode cX0_becomeAs 85 = .ok (.getfield 24, 3) := by decide +kernel
theorem dX0_becomeAs_88 : decode cX0_becomeAs 88 = .ok (.iconst 0, 1) := by decide +kernel
theorem dX0_becomeAs_89 : decode cX0_becomeAs 89 = .ok (.aload_n 0, 1) := by decide +kernel
theorem dX0_becomeAs_90 : decode cX0_becomeAs 90 = .ok (.getfield 24, 3) := by decide +kernel
theorem dX0_becomeAs_93 : decode cX0_becomeAs 93 = .ok (.iconst 0, 1) := by decide +kernel
theorem dX0_becomeAs_94 : decode cX0_becomeAs 94 = .ok (.bipush 8, 2) := by decide +kernel
theorem dX0_becomeAs_96 : decode cX0_becomeAs 96 = .ok (.invokestatic 40, 3) := by decide +kernel
theorem dX0_becomeAs_99 : decode cX0_becomeAs 99 = .ok (.aload_n 1, 1) := by decide +kernel
theorem dX0_becomeAs_100 : decode cX0_becomeAs 100 = .ok (.getfield 27, 3) := by decide +kernel
theorem dX0_becomeAs_103 : decode cX0_becomeAs 103 = .ok (.iconst 0, 1) := by decide +kernel
theorem dX0_becomeAs_104 : decode cX0_becomeAs 104 = .ok (.aload_n 0, 1) := by decide +kernel
theorem dX0_becomeAs_105 : decode cX0_becomeAs 105 = .ok (.getfield 27, 3) := by decide +kernel
theorem dX0_becomeAs_108 : decode cX0_becomeAs 108 = .ok (.iconst 0, 1) := by decide +kernel
theorem dX0_becomeAs_109 : decode cX0_becomeAs 109 = .ok (.bipush 8, 2) := by decide +kernel
theorem dX0_becomeAs_111 : decode cX0_becomeAs 111 = .ok (.invokestatic 40, 3) := by decide +kernel
theorem dX0_becomeAs_114 : decode cX0_becomeAs 114 = .ok (.return_, 1) := by decide +kernel
theorem dX0_addDuster_0 : decode cX0_addDuster 0 = .ok (.aload_n 0, 1) := by decide +kernel
theorem dX0_addDuster_1 : decode cX0_addDuster 1 = .ok (.getfield 37, 3) := by decide +kernel
theorem dX0_addDuster_4 : decode cX0_addDuster 4 = .ok (.bipush 8, 2) := by decide +kernel
theorem dX0_addDuster_6 : decode cX0_addDuster 6 = .ok (.if_icmp .lt 5, 3) := by decide +kernel
theorem dX0_addDuster_9 : decode cX0_addDuster 9 = .ok (.iconst (-1), 1) := by decide +kernel
theorem dX0_addDuster_10 : decode cX0_addDuster 10 = .ok (.ireturn, 1) := by decide +kernel
theorem dX0_addDuster_11 : decode cX0_addDuster 11 = .ok (.aload_n 0, 1) := by decide +kernel
theorem dX0_addDuster_12 : decode cX0_addDuster 12 = .ok (.getfield 37, 3) := by decide +kernel
theorem dX0_addDuster_15 : decode cX0_addDuster 15 = .ok (.istore_n 2, 1) := by decide +kernel
theorem dX0_addDuster_16 : decode cX0_addDuster 16 = .ok (.aload_n 0, 1) := by decide +kernel
theorem dX0_addDuster_17 : decode cX0_addDuster 17 = .ok (.getfield 18, 3) := by decide +kernel
theorem dX0_addDuster_20 : decode cX0_addDuster 20 = .ok (.iload_n 2, 1) := by decide +kernel
theorem dX0_addDuster_21 : decode cX0_addDuster 21 = .ok (.iload_n 1, 1) := by decide +kernel
theorem dX0_addDuster_22 : decode cX0_addDuster 22 = .ok (.iastore, 1) := by decide +kernel
theorem dX0_addDuster_23 : decode cX0_addDuster 23 = .ok (.aload_n 0, 1) := by decide +kernel
theorem dX0_addDuster_24 : decode cX0_addDuster 24 = .ok (.getfield 21, 3) := by decide +kernel
theorem dX0_addDuster_27 : decode cX0_addDuster 27 = .ok (.iload_n 2, 1) := by decide +kernel
theorem dX0_addDuster_28 : decode cX0_addDuster 28 = .ok (.iconst 0, 1) := by decide +kernel
theorem dX0_addDuster_29 : decode cX0_addDuster 29 = .ok (.iastore, 1) := by decide +kernel
theorem dX0_addDuster_30 : decode cX0_addDuster 30 = .ok (.aload_n 0, 1) := by decide +kernel
theorem dX0_addDuster_31 : decode cX0_addDuster 31 = .ok (.getfield 24, 3) := by decide +kernel
theorem dX0_addDuster_34 : decode cX0_addDuster 34 = .ok (.iload_n 2, 1) := by decide +kernel
theorem dX0_addDuster_35 : decode cX0_addDuster 35 = .ok (.iconst 0, 1) := by decide +kernel
theorem dX0_addDuster_36 : decode cX0_addDuster 36 = .ok (.iastore, 1) := by decide +kernel
theorem dX0_addDuster_37 : decode cX0_addDuster 37 = .ok (.aload_n 0, 1) := by decide +kernel
theorem dX0_addDuster_38 : decode cX0_addDuster 38 = .ok (.getfield 27, 3) := by decide +kernel
theorem dX0_addDuster_41 : decode cX0_addDuster 41 = .ok (.iload_n 2, 1) := by decide +kernel
theorem dX0_addDuster_42 : decode cX0_addDuster 42 = .ok (.iload_n 2, 1) := by decide +kernel
theorem dX0_addDuster_43 : decode cX0_addDuster 43 = .ok (.iastore, 1) := by decide +kernel
theorem dX0_addDuster_44 : decode cX0_addDuster 44 = .ok (.aload_n 0, 1) := by decide +kernel
theorem dX0_addDuster_45 : decode cX0_addDuster 45 = .ok (.dup, 1) := by decide +kernel
theorem dX0_addDuster_46 : decode cX0_addDuster 46 = .ok (.getfield 37, 3) := by decide +kernel
theorem dX0_addDuster_49 : decode cX0_addDuster 49 = .ok (.iconst 1, 1) := by decide +kernel
theorem dX0_addDuster_50 : decode cX0_addDuster 50 = .ok (.iadd, 1) := by decide +kernel
theorem dX0_addDuster_51 : decode cX0_addDuster 51 = .ok (.putfield 37, 3) := by decide +kernel
theorem dX0_addDuster_54 : decode cX0_addDuster 54 = .ok (.iload_n 2, 1) := by decide +kernel
theorem dX0_addDuster_55 : decode cX0_addDuster 55 = .ok (.ireturn, 1) := by decide +kernel
theorem dX0_whereIs_0 : decode cX0_whereIs 0 = .ok (.aload_n 0, 1) := by decide +kernel
theorem dX0_whereIs_1 : decode cX0_whereIs 1 = .ok (.getfield 30, 3) := by decide +kernel
theorem dX0_whereIs_4 : decode cX0_whereIs 4 = .ok (.aload_n 0, 1) := by decide +kernel
theorem dX0_whereIs_5 : decode cX0_whereIs 5 = .ok (.getfield 27, 3) := by decide +kernel
theorem dX0_whereIs_8 : decode cX0_whereIs 8 = .ok (.iload_n 1, 1) := by decide +kernel
theorem dX0_whereIs_9 : decode cX0_whereIs 9 = .ok (.iaload, 1) := by decide +kernel
theorem dX0_whereIs_10 : decode cX0_whereIs 10 = .ok (.iadd, 1) := by decide +kernel
theorem dX0_whereIs_11 : decode cX0_whereIs 11 = .ok (.bipush 7, 2) := by decide +kernel
theorem dX0_whereIs_13 : decode cX0_whereIs 13 = .ok (.iand, 1) := by decide +kernel
theorem dX0_whereIs_14 : decode cX0_whereIs 14 = .ok (.ireturn, 1) := by decide +kernel
theorem dX0_whoIsIn_0 : decode cX0_whoIsIn 0 = .ok (.iconst 0, 1) := by decide +kernel
theorem dX0_whoIsIn_1 : decode cX0_whoIsIn 1 = .ok (.istore_n 2, 1) := by decide +kernel
theorem dX0_whoIsIn_2 : decode cX0_whoIsIn 2 = .ok (.iconst 0, 1) := by decide +kernel
theorem dX0_whoIsIn_3 : decode cX0_whoIsIn 3 = .ok (.istore_n 3, 1) := by decide +kernel
theorem dX0_whoIsIn_4 : decode cX0_whoIsIn 4 = .ok (.iload_n 3, 1) := by decide +kernel
theorem dX0_whoIsIn_5 : decode cX0_whoIsIn 5 = .ok (.aload_n 0, 1) := by decide +kernel
theorem dX0_whoIsIn_6 : decode cX0_whoIsIn 6 = .ok (.getfield 37, 3) := by decide +kernel
theorem dX0_whoIsIn_9 : decode cX0_whoIsIn 9 = .ok (.if_icmp .ge 24, 3) := by decide +kernel
theorem dX0_whoIsIn_12 : decode cX0_whoIsIn 12 = .ok (.aload_n 0, 1) := by decide +kernel
theorem dX0_whoIsIn_13 : decode cX0_whoIsIn 13 = .ok (.iload_n 3, 1) := by decide +kernel
theorem dX0_whoIsIn_14 : decode cX0_whoIsIn 14 = .ok (.invokevirtual 46, 3) := by decide +kernel
theorem dX0_whoIsIn_17 : decode cX0_whoIsIn 17 = .ok (.iload_n 1, 1) := by decide +kernel
theorem dX0_whoIsIn_18 : decode cX0_whoIsIn 18 = .ok (.if_icmp .ne 9, 3) := by decide +kernel
theorem dX0_whoIsIn_21 : decode cX0_whoIsIn 21 = .ok (.iload_n 2, 1) := by decide +kernel
theorem dX0_whoIsIn_22 : decode cX0_whoIsIn 22 = .ok (.iconst 1, 1) := by decide +kernel
theorem dX0_whoIsIn_23 : decode cX0_whoIsIn 23 = .ok (.iload_n 3, 1) := by decide +kernel
theorem dX0_whoIsIn_24 : decode cX0_whoIsIn 24 = .ok (.ishl, 1) := by decide +kernel
theorem dX0_whoIsIn_25 : decode cX0_whoIsIn 25 = .ok (.ior, 1) := by decide +kernel
theorem dX0_whoIsIn_26 : decode cX0_whoIsIn 26 = .ok (.istore_n 2, 1) := by decide +kernel
theorem dX0_whoIsIn_27 : decode cX0_whoIsIn 27 = .ok (.iinc 3 1, 3) := by decide +kernel
theorem dX0_whoIsIn_30 : decode cX0_whoIsIn 30 = .ok (.goto (-26), 3) := by decide +kernel
theorem dX0_whoIsIn_33 : decode cX0_whoIsIn 33 = .ok (.iload_n 2, 1) := by decide +kernel
theorem dX0_whoIsIn_34 : decode cX0_whoIsIn 34 = .ok (.ireturn, 1) := by decide +kernel
theorem dX0_goDays_0 : decode cX0_goDays 0 = .ok (.iconst 0, 1) := by decide +kernel
theorem dX0_goDays_1 : decode cX0_goDays 1 = .ok (.istore_n 2, 1) := by decide +kernel
theorem dX0_goDays_2 : decode cX0_goDays 2 = .ok (.iload_n 2, 1) := by decide +kernel
theorem dX0_goDays_3 : decode cX0_goDays 3 = .ok (.iload_n 1, 1) := by decide +kernel
theorem dX0_goDays_4 : decode cX0_goDays 4 = .ok (.if_icmp .ge 13, 3) := by decide +kernel
theorem dX0_goDays_7 : decode cX0_goDays 7 = .ok (.aload_n 0, 1) := by decide +kernel
theorem dX0_goDays_8 : decode cX0_goDays 8 = .ok (.invokevirtual 50, 3) := by decide +kernel
theorem dX0_goDays_11 : decode cX0_goDays 11 = .ok (.iinc 2 1, 3) := by decide +kernel
theorem dX0_goDays_14 : decode cX0_goDays 14 = .ok (.goto (-12), 3) := by decide +kernel
theorem dX0_goDays_17 : decode cX0_goDays 17 = .ok (.return_, 1) := by decide +kernel
theorem dX0_goDay_0 : decode cX0_goDay 0 = .ok (.iconst 0, 1) := by decide +kernel
theorem dX0_goDay_1 : decode cX0_goDay 1 = .ok (.istore_n 1, 1) := by decide +kernel
theorem dX0_goDay_2 : decode cX0_goDay 2 = .ok (.iload_n 1, 1) := by decide +kernel
theorem dX0_goDay_3 : decode cX0_goDay 3 = .ok (.aload_n 0, 1) := by decide +kernel
theorem dX0_goDay_4 : decode cX0_goDay 4 = .ok (.getfield 37, 3) := by decide +kernel
theorem dX0_goDay_7 : decode cX0_goDay 7 = .ok (.if_icmp .ge 20, 3) := by decide +kernel
theorem dX0_goDay_10 : decode cX0_goDay 10 = .ok (.aload_n 0, 1) := by decide +kernel
theorem dX0_goDay_11 : decode cX0_goDay 11 = .ok (.iload_n 1, 1) := by decide +kernel
theorem dX0_goDay_12 : decode cX0_goDay 12 = .ok (.aload_n 0, 1) := by decide +kernel
theorem dX0_goDay_13 : decode cX0_goDay 13 = .ok (.iload_n 1, 1) := by decide +kernel
theorem dX0_goDay_14 : decode cX0_goDay 14 = .ok (.invokevirtual 46, 3) := by decide +kernel
theorem dX0_goDay_17 : decode cX0_goDay 17 = .ok (.invokevirtual 53, 3) := by decide +kernel
theorem dX0_goDay_20 : decode cX0_goDay 20 = .ok (.pop, 1) := by decide +kernel
theorem dX0_goDay_21 : decode cX0_goDay 21 = .ok (.iinc 1 1, 3) := by decide +kernel
theorem dX0_goDay_24 : decode cX0_goDay 24 = .ok (.goto (-22), 3) := by decide +kernel
theorem dX0_goDay_27 : decode cX0_goDay 27 = .ok (.iconst 0, 1) := by decide +kernel
theorem dX0_goDay_28 : decode cX0_goDay 28 = .ok (.istore_n 1, 1) := by decide +kernel
theorem dX0_goDay_29 : decode cX0_goDay 29 = .ok (.iload_n 1, 1) := by decide +kernel
theorem dX0_goDay_30 : decode cX0_goDay 30 = .ok (.bipush 8, 2) := by decide +kernel
theorem dX0_goDay_32 : decode cX0_goDay 32 = .ok (.if_icmp .ge 31, 3) := by decide +kernel
theorem dX0_goDay_35 : decode cX0_goDay 35 = .ok (.aload_n 0, 1) := by decide +kernel
theorem dX0_goDay_36 : decode cX0_goDay 36 = .ok (.getfield 9, 3) := by decide +kernel
theorem dX0_goDay_39 : decode cX0_goDay 39 = .ok (.iload_n 1, 1) := by decide +kernel
theorem dX0_goDay_40 : decode cX0_goDay 40 = .ok (.bipush 99, 2) := by decide +kernel
theorem dX0_goDay_42 : decode cX0_goDay 42 = .ok (.aload_n 0, 1) := by decide +kernel
theorem dX0_goDay_43 : decode cX0_goDay 43 = .ok (.getfield 9, 3) := by decide +kernel
theorem dX0_goDay_46 : decode cX0_goDay 46 = .ok (.iload_n 1, 1) := by decide +kernel
theorem dX0_goDay_47 : decode cX0_goDay 47 = .ok (.iaload, 1) := by decide +kernel
theorem dX0_goDay_48 : decode cX0_goDay 48 = .ok (.aload_n 0, 1) := by decide +kernel
theorem dX0_goDay_49 : decode cX0_goDay 49 = .ok (.getfield 34, 3) := by decide +kernel
theorem dX0_goDay_52 : decode cX0_goDay 52 = .ok (.iadd, 1) := by decide +kernel
theorem dX0_goDay_53 : decode cX0_goDay 53 = .ok (.invokestatic 57, 3) := by decide +kernel
theorem dX0_goDay_56 : decode cX0_goDay 56 = .ok (.iastore, 1) := by decide +kernel
theorem dX0_goDay_57 : decode cX0_goDay 57 = .ok (.iinc 1 1, 3) := by decide +kernel
theorem dX0_goDay_60 : decode cX0_goDay 60 = .ok (.goto (-31), 3) := by decide +kernel
theorem dX0_goDay_63 : decode cX0_goDay 63 = .ok (.aload_n 0, 1) := by decide +kernel
theorem dX0_goDay_64 : decode cX0_goDay 64 = .ok (.dup, 1) := by decide +kernel
theorem dX0_goDay_65 : decode cX0_goDay 65 = .ok (.getfield 30, 3) := by decide +kernel
theorem dX0_goDay_68 : decode cX0_goDay 68 = .ok (.iconst 1, 1) := by decide +kernel
theorem dX0_goDay_69 : decode cX0_goDay 69 = .ok (.iadd, 1) := by decide +kernel
theorem dX0_goDay_70 : decode cX0_goDay 70 = .ok (.putfield 30, 3) := by decide +kernel
theorem dX0_goDay_73 : decode cX0_goDay 73 = .ok (.return_, 1) := by decide +kernel
theorem dX0_goThrough_0 : decode cX0_goThrough 0 = .ok (.aload_n 0, 1) := by decide +kernel
theorem dX0_goThrough_1 : decode cX0_goThrough 1 = .ok (.getfield 18, 3) := by decide +kernel
theorem dX0_goThrough_4 : decode cX0_goThrough 4 = .ok (.iload_n 1, 1) := by decide +kernel
theorem dX0_goThrough_5 : decode cX0_goThrough 5 = .ok (.iaload, 1) := by decide +kernel
theorem dX0_goThrough_6 : decode cX0_goThrough 6 = .ok (.istore_n 3, 1) := by decide +kernel
theorem dX0_goThrough_7 : decode cX0_goThrough 7 = .ok (.aload_n 0, 1) := by decide +kernel
theorem dX0_goThrough_8 : decode cX0_goThrough 8 = .ok (.getfield 24, 3) := by decide +kernel
theorem dX0_goThrough_11 : decode cX0_goThrough 11 = .ok (.iload_n 1, 1) := by decide +kernel
theorem dX0_goThrough_12 : decode cX0_goThrough 12 = .ok (.iaload, 1) := by decide +kernel
theorem dX0_goThrough_13 : decode cX0_goThrough 13 = .ok (.istore 4, 2) := by decide +kernel
theorem dX0_goThrough_15 : decode cX0_goThrough 15 = .ok (.aload_n 0, 1) := by decide +kernel
theorem dX0_goThrough_16 : decode cX0_goThrough 16 = .ok (.getfield 21, 3) := by decide +kernel
theorem dX0_goThrough_19 : decode cX0_goThrough 19 = .ok (.iload_n 1, 1) := by decide +kernel
theorem dX0_goThrough_20 : decode cX0_goThrough 20 = .ok (.iaload, 1) := by decide +kernel
theorem dX0_goThrough_21 : decode cX0_goThrough 21 = .ok (.istore 5, 2) := by decide +kernel
theorem dX0_goThrough_23 : decode cX0_goThrough 23 = .ok (.aload_n 0, 1) := by decide +kernel
theorem dX0_goThrough_24 : decode cX0_goThrough 24 = .ok (.getfield 15, 3) := by decide +kernel
theorem dX0_goThrough_27 : decode cX0_goThrough 27 = .ok (.iload_n 2, 1) := by decide +kernel
theorem dX0_goThrough_28 : decode cX0_goThrough 28 = .ok (.iaload, 1) := by decide +kernel
theorem dX0_goThrough_29 : decode cX0_goThrough 29 = .ok (.istore 6, 2) := by decide +kernel
theorem dX0_goThrough_31 : decode cX0_goThrough 31 = .ok (.iload 6, 2) := by decide +kernel
theorem dX0_goThrough_33 : decode cX0_goThrough 33 = .ok (.iload 5, 2) := by decide +kernel
theorem dX0_goThrough_35 : decode cX0_goThrough 35 = .ok (.iconst (-1), 1) := by decide +kernel
theorem dX0_goThrough_36 : decode cX0_goThrough 36 = .ok (.ixor, 1) := by decide +kernel
theorem dX0_goThrough_37 : decode cX0_goThrough 37 = .ok (.iand, 1) := by decide +kernel
theorem dX0_goThrough_38 : decode cX0_goThrough 38 = .ok (.iload_n 3, 1) := by decide +kernel
theorem dX0_goThrough_39 : decode cX0_goThrough 39 = .ok (.iload 4, 2) := by decide +kernel
theorem dX0_goThrough_41 : decode cX0_goThrough 41 = .ok (.invokestatic 62, 3) := by decide +kernel
theorem dX0_goThrough_44 : decode cX0_goThrough 44 = .ok (.invokestatic 67, 3) := by decide +kernel
theorem dX0_goThrough_47 : decode cX0_goThrough 47 = .ok (.istore 7, 2) := by decide +kernel
theorem dX0_goThrough_49 : decode cX0_goThrough 49 = .ok (.iload 5, 2) := by decide +kernel
theorem dX0_goThrough_51 : decode cX0_goThrough 51 = .ok (.iload 6, 2) := by decide +kernel
theorem dX0_goThrough_53 : decode cX0_goThrough 53 = .ok (.iconst (-1), 1) := by decide +kernel
theorem dX0_goThrough_54 : decode cX0_goThrough 54 = .ok (.ixor, 1) := by decide +kernel
theorem dX0_goThrough_55 : decode cX0_goThrough 55 = .ok (.iand, 1) := by decide +kernel
theorem dX0_goThrough_56 : decode cX0_goThrough 56 = .ok (.iload_n 3, 1) := by decide +kernel
theorem dX0_goThrough_57 : decode cX0_goThrough 57 = .ok (.iload 4, 2) := by decide +kernel
theorem dX0_goThrough_59 : decode cX0_goThrough 59 = .ok (.invokestatic 70, 3) := by decide +kernel
theorem dX0_goThrough_62 : decode cX0_goThrough 62 = .ok (.invokestatic 67, 3) := by decide +kernel
theorem dX0_goThrough_65 : decode cX0_goThrough 65 = .ok (.istore 8, 2) := by decide +kernel
theorem dX0_goThrough_67 : decode cX0_goThrough 67 = .ok (.aload_n 0, 1) := by decide +kernel
theorem dX0_goThrough_68 : decode cX0_goThrough 68 = .ok (.getfield 9, 3) := by decide +kernel
theorem dX0_goThrough_71 : decode cX0_goThrough 71 = .ok (.iload_n 2, 1) := by decide +kernel
theorem dX0_goThrough_72 : decode cX0_goThrough 72 = .ok (.iaload, 1) := by decide +kernel
theorem dX0_goThrough_73 : decode cX0_goThrough 73 = .ok (.iload_n 3, 1) := by decide +kernel
theorem dX0_goThrough_74 : decode cX0_goThrough 74 = .ok (.iload 4, 2) := by decide +kernel
theorem dX0_goThrough_76 : decode cX0_goThrough 76 = .ok (.invokestatic 73, 3) := by decide +kernel
theorem dX0_goThrough_79 : decode cX0_goThrough 79 = .ok (.invokestatic 57, 3) := by decide +kernel
theorem dX0_goThrough_82 : decode cX0_goThrough 82 = .ok (.istore 9, 2) := by decide +kernel
theorem dX0_goThrough_84 : decode cX0_goThrough 84 = .ok (.iload_n 3, 1) := by decide +kernel
theorem dX0_goThrough_85 : decode cX0_goThrough 85 = .ok (.iload 5, 2) := by decide +kernel
theorem dX0_goThrough_87 : decode cX0_goThrough 87 = .ok (.invokestatic 76, 3) := by decide +kernel
theorem dX0_goThrough_90 : decode cX0_goThrough 90 = .ok (.ifCond .eq 7, 3) := by decide +kernel
theorem dX0_goThrough_93 : decode cX0_goThrough 93 = .ok (.iconst 0, 1) := by decide +kernel
theorem dX0_goThrough_94 : decode cX0_goThrough 94 = .ok (.goto 5, 3) := by decide +kernel
theorem dX0_goThrough_97 : decode cX0_goThrough 97 = .ok (.iload 8, 2) := by decide +kernel
theorem dX0_goThrough_99 : decode cX0_goThrough 99 = .ok (.istore 10, 2) := by decide +kernel
theorem dX0_goThrough_101 : decode cX0_goThrough 101 = .ok (.aload_n 0, 1) := by decide +kernel
theorem dX0_goThrough_102 : decode cX0_goThrough 102 = .ok (.getfield 21, 3) := by decide +kernel
theorem dX0_goThrough_105 : decode cX0_goThrough 105 = .ok (.iload_n 1, 1) := by decide +kernel
theorem dX0_goThrough_106 : decode cX0_goThrough 106 = .ok (.iload 5, 2) := by decide +kernel
theorem dX0_goThrough_108 : decode cX0_goThrough 108 = .ok (.iload 7, 2) := by decide +kernel
theorem dX0_goThrough_110 : decode cX0_goThrough 110 = .ok (.ior, 1) := by decide +kernel
theorem dX0_goThrough_111 : decode cX0_goThrough 111 = .ok (.iload 10, 2) := by decide +kernel
theorem dX0_goThrough_113 : decode cX0_goThrough 113 = .ok (.iconst (-1), 1) := by decide +kernel
theorem dX0_goThrough_114 : decode cX0_goThrough 114 = .ok (.ixor, 1) := by decide +kernel
theorem dX0_goThrough_115 : decode cX0_goThrough 115 = .ok (.iand, 1) := by decide +kernel
theorem dX0_goThrough_116 : decode cX0_goThrough 116 = .ok (.iastore, 1) := by decide +kernel
theorem dX0_goThrough_117 : decode cX0_goThrough 117 = .ok (.aload_n 0, 1) := by decide +kernel
theorem dX0_goThrough_118 : decode cX0_goThrough 118 = .ok (.getfield 15, 3) := by decide +kernel
theorem dX0_goThrough_121 : decode cX0_goThrough 121 = .ok (.iload_n 2, 1) := by decide +kernel
theorem dX0_goThrough_122 : decode cX0_goThrough 122 = .ok (.iload 6, 2) := by decide +kernel
theorem dX0_goThrough_124 : decode cX0_goThrough 124 = .ok (.iload 7, 2) := by decide +kernel
theorem dX0_goThrough_126 : decode cX0_goThrough 126 = .ok (.iconst (-1), 1) := by decide +kernel
theorem dX0_goThrough_127 : decode cX0_goThrough 127 = .ok (.ixor, 1) := by decide +kernel
theorem dX0_goThrough_128 : decode cX0_goThrough 128 = .ok (.iand, 1) := by decide +kernel
theorem dX0_goThrough_129 : decode cX0_goThrough 129 = .ok (.iload 8, 2) := by decide +kernel
theorem dX0_goThrough_131 : decode cX0_goThrough 131 = .ok (.ior, 1) := by decide +kernel
theorem dX0_goThrough_132 : decode cX0_goThrough 132 = .ok (.iastore, 1) := by decide +kernel
theorem dX0_goThrough_133 : decode cX0_goThrough 133 = .ok (.aload_n 0, 1) := by decide +kernel
theorem dX0_goThrough_134 : decode cX0_goThrough 134 = .ok (.getfield 9, 3) := by decide +kernel
theorem dX0_goThrough_137 : decode cX0_goThrough 137 = .ok (.iload_n 2, 1) := by decide +kernel
theorem dX0_goThrough_138 : decode cX0_goThrough 138 = .ok (.dup2, 1) := by decide +kernel
theorem dX0_goThrough_139 : decode cX0_goThrough 139 = .ok (.iaload, 1) := by decide +kernel
theorem dX0_goThrough_140 : decode cX0_goThrough 140 = .ok (.iload 9, 2) := by decide +kernel
theorem dX0_goThrough_142 : decode cX0_goThrough 142 = .ok (.isub, 1) := by decide +kernel
theorem dX0_goThrough_143 : decode cX0_goThrough 143 = .ok (.iastore, 1) := by decide +kernel
theorem dX0_goThrough_144 : decode cX0_goThrough 144 = .ok (.aload_n 0, 1) := by decide +kernel
theorem dX0_goThrough_145 : decode cX0_goThrough 145 = .ok (.getfield 24, 3) := by decide +kernel
theorem dX0_goThrough_148 : decode cX0_goThrough 148 = .ok (.iload_n 1, 1) := by decide +kernel
theorem dX0_goThrough_149 : decode cX0_goThrough 149 = .ok (.bipush 99, 2) := by decide +kernel
theorem dX0_goThrough_151 : decode cX0_goThrough 151 = .ok (.iload 4, 2) := by decide +kernel
theorem dX0_goThrough_153 : decode cX0_goThrough 153 = .ok (.iload 9, 2) := by decide +kernel
theorem dX0_goThrough_155 : decode cX0_goThrough 155 = .ok (.iconst 2, 1) := by decide +kernel
theorem dX0_goThrough_156 : decode cX0_goThrough 156 = .ok (.idiv, 1) := by decide +kernel
theorem dX0_goThrough_157 : decode cX0_goThrough 157 = .ok (.iadd, 1) := by decide +kernel
theorem dX0_goThrough_158 : decode cX0_goThrough 158 = .ok (.invokestatic 57, 3) := by decide +kernel
theorem dX0_goThrough_161 : decode cX0_goThrough 161 = .ok (.iastore, 1) := by decide +kernel
theorem dX0_goThrough_162 : decode cX0_goThrough 162 = .ok (.iload 9, 2) := by decide +kernel
theorem dX0_goThrough_164 : decode cX0_goThrough 164 = .ok (.ireturn, 1) := by decide +kernel
theorem dX0_washOne_0 : decode cX0_washOne 0 = .ok (.aload_n 0, 1) := by decide +kernel
theorem dX0_washOne_1 : decode cX0_washOne 1 = .ok (.getfield 21, 3) := by decide +kernel
theorem dX0_washOne_4 : decode cX0_washOne 4 = .ok (.iload_n 1, 1) := by decide +kernel
theorem dX0_washOne_5 : decode cX0_washOne 5 = .ok (.iaload, 1) := by decide +kernel
theorem dX0_washOne_6 : decode cX0_washOne 6 = .ok (.istore_n 2, 1) := by decide +kernel
theorem dX0_washOne_7 : decode cX0_washOne 7 = .ok (.iconst 0, 1) := by decide +kernel
theorem dX0_washOne_8 : decode cX0_washOne 8 = .ok (.istore_n 3, 1) := by decide +kernel
theorem dX0_washOne_9 : decode cX0_washOne 9 = .ok (.iload_n 3, 1) := by decide +kernel
theorem dX0_washOne_10 : decode cX0_washOne 10 = .ok (.bipush 8, 2) := by decide +kernel
theorem dX0_washOne_12 : decode cX0_washOne 12 = .ok (.if_icmp .ge 19, 3) := by decide +kernel
theorem dX0_washOne_15 : decode cX0_washOne 15 = .ok (.aload_n 0, 1) := by decide +kernel
theorem dX0_washOne_16 : decode cX0_washOne 16 = .ok (.getfield 15, 3) := by decide +kernel
theorem dX0_washOne_19 : decode cX0_washOne 19 = .ok (.iload_n 3, 1) := by decide +kernel
theorem dX0_washOne_20 : decode cX0_washOne 20 = .ok (.dup2, 1) := by decide +kernel
theorem dX0_washOne_21 : decode cX0_washOne 21 = .ok (.iaload, 1) := by decide +kernel
theorem dX0_washOne_22 : decode cX0_washOne 22 = .ok (.iload_n 2, 1) := by decide +kernel
theorem dX0_washOne_23 : decode cX0_washOne 23 = .ok (.ior, 1) := by decide +kernel
theorem dX0_washOne_24 : decode cX0_washOne 24 = .ok (.iastore, 1) := by decide +kernel
theorem dX0_washOne_25 : decode cX0_washOne 25 = .ok (.iinc 3 1, 3) := by decide +kernel
theorem dX0_washOne_28 : decode cX0_washOne 28 = .ok (.goto (-19), 3) := by decide +kernel
theorem dX0_washOne_31 : decode cX0_washOne 31 = .ok (.aload_n 0, 1) := by decide +kernel
theorem dX0_washOne_32 : decode cX0_washOne 32 = .ok (.getfield 21, 3) := by decide +kernel
theorem dX0_washOne_35 : decode cX0_washOne 35 = .ok (.iload_n 1, 1) := by decide +kernel
theorem dX0_washOne_36 : decode cX0_washOne 36 = .ok (.iconst 0, 1) := by decide +kernel
theorem dX0_washOne_37 : decode cX0_washOne 37 = .ok (.iastore, 1) := by decide +kernel
theorem dX0_washOne_38 : decode cX0_washOne 38 = .ok (.aload_n 0, 1) := by decide +kernel
theorem dX0_washOne_39 : decode cX0_washOne 39 = .ok (.getfield 24, 3) := by decide +kernel
theorem dX0_washOne_42 : decode cX0_washOne 42 = .ok (.iload_n 1, 1) := by decide +kernel
theorem dX0_washOne_43 : decode cX0_washOne 43 = .ok (.iconst 0, 1) := by decide +kernel
theorem dX0_washOne_44 : decode cX0_washOne 44 = .ok (.iastore, 1) := by decide +kernel
theorem dX0_washOne_45 : decode cX0_washOne 45 = .ok (.iload_n 2, 1) := by decide +kernel
theorem dX0_washOne_46 : decode cX0_washOne 46 = .ok (.ireturn, 1) := by decide +kernel
theorem dX0_shakeOne_0 : decode cX0_shakeOne 0 = .ok (.aload_n 0, 1) := by decide +kernel
theorem dX0_shakeOne_1 : decode cX0_shakeOne 1 = .ok (.getfield 21, 3) := by decide +kernel
theorem dX0_shakeOne_4 : decode cX0_shakeOne 4 = .ok (.iload_n 1, 1) := by decide +kernel
theorem dX0_shakeOne_5 : decode cX0_shakeOne 5 = .ok (.iaload, 1) := by decide +kernel
theorem dX0_shakeOne_6 : decode cX0_shakeOne 6 = .ok (.istore_n 2, 1) := by decide +kernel
theorem dX0_shakeOne_7 : decode cX0_shakeOne 7 = .ok (.aload_n 0, 1) := by decide +kernel
theorem dX0_shakeOne_8 : decode cX0_shakeOne 8 = .ok (.getfield 15, 3) := by decide +kernel
theorem dX0_shakeOne_11 : decode cX0_shakeOne 11 = .ok (.aload_n 0, 1) := by decide +kernel
theorem dX0_shakeOne_12 : decode cX0_shakeOne 12 = .ok (.iload_n 1, 1) := by decide +kernel
theorem dX0_shakeOne_13 : decode cX0_shakeOne 13 = .ok (.invokevirtual 46, 3) := by decide +kernel
theorem dX0_shakeOne_16 : decode cX0_shakeOne 16 = .ok (.iconst 1, 1) := by decide +kernel
theorem dX0_shakeOne_17 : decode cX0_shakeOne 17 = .ok (.iadd, 1) := by decide +kernel
theorem dX0_shakeOne_18 : decode cX0_shakeOne 18 = .ok (.bipush 7, 2) := by decide +kernel
theorem dX0_shakeOne_20 : decode cX0_shakeOne 20 = .ok (.iand, 1) := by decide +kernel
theorem dX0_shakeOne_21 : decode cX0_shakeOne 21 = .ok (.dup2, 1) := by decide +kernel
theorem dX0_shakeOne_22 : decode cX0_shakeOne 22 = .ok (.iaload, 1) := by decide +kernel
theorem dX0_shakeOne_23 : decode cX0_shakeOne 23 = .ok (.iload_n 2, 1) := by decide +kernel
theorem dX0_shakeOne_24 : decode cX0_shakeOne 24 = .ok (.ior, 1) := by decide +kernel
theorem dX0_shakeOne_25 : decode cX0_shakeOne 25 = .ok (.iastore, 1) := by decide +kernel
theorem dX0_shakeOne_26 : decode cX0_shakeOne 26 = .ok (.aload_n 0, 1) := by decide +kernel
theorem dX0_shakeOne_27 : decode cX0_shakeOne 27 = .ok (.getfield 21, 3) := by decide +kernel
theorem dX0_shakeOne_30 : decode cX0_shakeOne 30 = .ok (.iload_n 1, 1) := by decide +kernel
theorem dX0_shakeOne_31 : decode cX0_shakeOne 31 = .ok (.iconst 0, 1) := by decide +kernel
theorem dX0_shakeOne_32 : decode cX0_shakeOne 32 = .ok (.iastore, 1) := by decide +kernel
theorem dX0_shakeOne_33 : decode cX0_shakeOne 33 = .ok (.aload_n 0, 1) := by decide +kernel
theorem dX0_shakeOne_34 : decode cX0_shakeOne 34 = .ok (.getfield 24, 3) := by decide +kernel
theorem dX0_shakeOne_37 : decode cX0_shakeOne 37 = .ok (.iload_n 1, 1) := by decide +kernel
theorem dX0_shakeOne_38 : decode cX0_shakeOne 38 = .ok (.dup2, 1) := by decide +kernel
theorem dX0_shakeOne_39 : decode cX0_shakeOne 39 = .ok (.iaload, 1) := by decide +kernel
theorem dX0_shakeOne_40 : decode cX0_shakeOne 40 = .ok (.iconst 2, 1) := by decide +kernel
theorem dX0_shakeOne_41 : decode cX0_shakeOne 41 = .ok (.idiv, 1) := by decide +kernel
theorem dX0_shakeOne_42 : decode cX0_shakeOne 42 = .ok (.iastore, 1) := by decide +kernel
theorem dX0_shakeOne_43 : decode cX0_shakeOne 43 = .ok (.iload_n 2, 1) := by decide +kernel
theorem dX0_shakeOne_44 : decode cX0_shakeOne 44 = .ok (.ireturn, 1) := by decide +kernel
theorem dX0_dustOfAll_0 : decode cX0_dustOfAll 0 = .ok (.iconst 0, 1) := by decide +kernel
theorem dX0_dustOfAll_1 : decode cX0_dustOfAll 1 = .ok (.istore_n 1, 1) := by decide +kernel
theorem dX0_dustOfAll_2 : decode cX0_dustOfAll 2 = .ok (.iconst 0, 1) := by decide +kernel
theorem dX0_dustOfAll_3 : decode cX0_dustOfAll 3 = .ok (.istore_n 2, 1) := by decide +kernel
theorem dX0_dustOfAll_4 : decode cX0_dustOfAll 4 = .ok (.iload_n 2, 1) := by decide +kernel
theorem dX0_dustOfAll_5 : decode cX0_dustOfAll 5 = .ok (.bipush 8, 2) := by decide +kernel
theorem dX0_dustOfAll_7 : decode cX0_dustOfAll 7 = .ok (.if_icmp .ge 18, 3) := by decide +kernel
theorem dX0_dustOfAll_10 : decode cX0_dustOfAll 10 = .ok (.iload_n 1, 1) := by decide +kernel
theorem dX0_dustOfAll_11 : decode cX0_dustOfAll 11 = .ok (.aload_n 0, 1) := by decide +kernel
theorem dX0_dustOfAll_12 : decode cX0_dustOfAll 12 = .ok (.getfield 9, 3) := by decide +kernel
theorem dX0_dustOfAll_15 : decode cX0_dustOfAll 15 = .ok (.iload_n 2, 1) := by decide +kernel
theorem dX0_dustOfAll_16 : decode cX0_dustOfAll 16 = .ok (.iaload, 1) := by decide +kernel
theorem dX0_dustOfAll_17 : decode cX0_dustOfAll 17 = .ok (.iadd, 1) := by decide +kernel
theorem dX0_dustOfAll_18 : decode cX0_dustOfAll 18 = .ok (.istore_n 1, 1) := by decide +kernel
theorem dX0_dustOfAll_19 : decode cX0_dustOfAll 19 = .ok (.iinc 2 1, 3) := by decide +kernel
theorem dX0_dustOfAll_22 : decode cX0_dustOfAll 22 = .ok (.goto (-18), 3) := by decide +kernel
theorem dX0_dustOfAll_25 : decode cX0_dustOfAll 25 = .ok (.iload_n 1, 1) := by decide +kernel
theorem dX0_dustOfAll_26 : decode cX0_dustOfAll 26 = .ok (.ireturn, 1) := by decide +kernel
theorem dX0_memoriesCounted_0 : decode cX0_memoriesCounted 0 = .ok (.iconst 0, 1) := by decide +kernel
theorem dX0_memoriesCounted_1 : decode cX0_memoriesCounted 1 = .ok (.istore_n 1, 1) := by decide +kernel
theorem dX0_memoriesCounted_2 : decode cX0_memoriesCounted 2 = .ok (.iconst 0, 1) := by decide +kernel
theorem dX0_memoriesCounted_3 : decode cX0_memoriesCounted 3 = .ok (.istore_n 2, 1) := by decide +kernel
theorem dX0_memoriesCounted_4 : decode cX0_memoriesCounted 4 = .ok (.iload_n 2, 1) := by decide +kernel
theorem dX0_memoriesCounted_5 : decode cX0_memoriesCounted 5 = .ok (.bipush 8, 2) := by decide +kernel
theorem dX0_memoriesCounted_7 : decode cX0_memoriesCounted 7 = .ok (.if_icmp .ge 21, 3) := by decide +kernel
theorem dX0_memoriesCounted_10 : decode cX0_memoriesCounted 10 = .ok (.iload_n 1, 1) := by decide +kernel
theorem dX0_memoriesCounted_11 : decode cX0_memoriesCounted 11 = .ok (.aload_n 0, 1) := by decide +kernel
theorem dX0_memoriesCounted_12 : decode cX0_memoriesCounted 12 = .ok (.getfield 15, 3) := by decide +kernel
theorem dX0_memoriesCounted_15 : decode cX0_memoriesCounted 15 = .ok (.iload_n 2, 1) := by decide +kernel
theorem dX0_memoriesCounted_16 : decode cX0_memoriesCounted 16 = .ok (.iaload, 1) := by decide +kernel
theorem dX0_memoriesCounted_17 : decode cX0_memoriesCounted 17 = .ok (.invokestatic 80, 3) := by decide +kernel
theorem dX0_memoriesCounted_20 : decode cX0_memoriesCounted 20 = .ok (.iadd, 1) := by decide +kernel
theorem dX0_memoriesCounted_21 : decode cX0_memoriesCounted 21 = .ok (.istore_n 1, 1) := by decide +kernel
theorem dX0_memoriesCounted_22 : decode cX0_memoriesCounted 22 = .ok (.iinc 2 1, 3) := by decide +kernel
theorem dX0_memoriesCounted_25 : decode cX0_memoriesCounted 25 = .ok (.goto (-21), 3) := by decide +kernel
theorem dX0_memoriesCounted_28 : decode cX0_memoriesCounted 28 = .ok (.iload_n 1, 1) := by decide +kernel
theorem dX0_memoriesCounted_29 : decode cX0_memoriesCounted 29 = .ok (.ireturn, 1) := by decide +kernel
theorem dX0_memoriesEverywhere_0 : decode cX0_memoriesEverywhere 0 = .ok (.sipush 1023, 3) := by decide +kernel
theorem dX0_memoriesEverywhere_3 : decode cX0_memoriesEverywhere 3 = .ok (.istore_n 1, 1) := by decide +kernel
theorem dX0_memoriesEverywhere_4 : decode cX0_memoriesEverywhere 4 = .ok (.iconst 0, 1) := by decide +kernel
theorem dX0_memoriesEverywhere_5 : decode cX0_memoriesEverywhere 5 = .ok (.istore_n 2, 1) := by decide +kernel
theorem dX0_memoriesEverywhere_6 : decode cX0_memoriesEverywhere 6 = .ok (.iload_n 2, 1) := by decide +kernel
theorem dX0_memoriesEverywhere_7 : decode cX0_memoriesEverywhere 7 = .ok (.bipush 8, 2) := by decide +kernel
theorem dX0_memoriesEverywhere_9 : decode cX0_memoriesEverywhere 9 = .ok (.if_icmp .ge 18, 3) := by decide +kernel
theorem dX0_memoriesEverywhere_12 : decode cX0_memoriesEverywhere 12 = .ok (.iload_n 1, 1) := by decide +kernel
theorem dX0_memoriesEverywhere_13 : decode cX0_memoriesEverywhere 13 = .ok (.aload_n 0, 1) := by decide +kernel
theorem dX0_memoriesEverywhere_14 : decode cX0_memoriesEverywhere 14 = .ok (.getfield 15, 3) := by decide +kernel
theorem dX0_memoriesEverywhere_17 : decode cX0_memoriesEverywhere 17 = .ok (.iload_n 2, 1) := by decide +kernel
theorem dX0_memoriesEverywhere_18 : decode cX0_memoriesEverywhere 18 = .ok (.iaload, 1) := by decide +kernel
theorem dX0_memoriesEverywhere_19 : decode cX0_memoriesEverywhere 19 = .ok (.iand, 1) := by decide +kernel
theorem dX0_memoriesEverywhere_20 : decode cX0_memoriesEverywhere 20 = .ok (.istore_n 1, 1) := by decide +kernel
theorem dX0_memoriesEverywhere_21 : decode cX0_memoriesEverywhere 21 = .ok (.iinc 2 1, 3) := by decide +kernel
theorem dX0_memoriesEverywhere_24 : decode cX0_memoriesEverywhere 24 = .ok (.goto (-18), 3) := by decide +kernel
theorem dX0_memoriesEverywhere_27 : decode cX0_memoriesEverywhere 27 = .ok (.iload_n 1, 1) := by decide +kernel
theorem dX0_memoriesEverywhere_28 : decode cX0_memoriesEverywhere 28 = .ok (.ireturn, 1) := by decide +kernel
theorem dX0_memoriesAnywhere_0 : decode cX0_memoriesAnywhere 0 = .ok (.iconst 0, 1) := by decide +kernel
theorem dX0_memoriesAnywhere_1 : decode cX0_memoriesAnywhere 1 = .ok (.istore_n 1, 1) := by decide +kernel
theorem dX0_memoriesAnywhere_2 : decode cX0_memoriesAnywhere 2 = .ok (.iconst 0, 1) := by decide +kernel
theorem dX0_memoriesAnywhere_3 : decode cX0_memoriesAnywhere 3 = .ok (.istore_n 2, 1) := by decide +kernel
theorem dX0_memoriesAnywhere_4 : decode cX0_memoriesAnywhere 4 = .ok (.iload_n 2, 1) := by decide +kernel
theorem dX0_memoriesAnywhere_5 : decode cX0_memoriesAnywhere 5 = .ok (.bipush 8, 2) := by decide +kernel
theorem dX0_memoriesAnywhere_7 : decode cX0_memoriesAnywhere 7 = .ok (.if_icmp .ge 18, 3) := by decide +kernel
theorem dX0_memoriesAnywhere_10 : decode cX0_memoriesAnywhere 10 = .ok (.iload_n 1, 1) := by decide +kernel
theorem dX0_memoriesAnywhere_11 : decode cX0_memoriesAnywhere 11 = .ok (.aload_n 0, 1) := by decide +kernel
theorem dX0_memoriesAnywhere_12 : decode cX0_memoriesAnywhere 12 = .ok (.getfield 15, 3) := by decide +kernel
theorem dX0_memoriesAnywhere_15 : decode cX0_memoriesAnywhere 15 = .ok (.iload_n 2, 1) := by decide +kernel
theorem dX0_memoriesAnywhere_16 : decode cX0_memoriesAnywhere 16 = .ok (.iaload, 1) := by decide +kernel
theorem dX0_memoriesAnywhere_17 : decode cX0_memoriesAnywhere 17 = .ok (.ior, 1) := by decide +kernel
theorem dX0_memoriesAnywhere_18 : decode cX0_memoriesAnywhere 18 = .ok (.istore_n 1, 1) := by decide +kernel
theorem dX0_memoriesAnywhere_19 : decode cX0_memoriesAnywhere 19 = .ok (.iinc 2 1, 3) := by decide +kernel
theorem dX0_memoriesAnywhere_22 : decode cX0_memoriesAnywhere 22 = .ok (.goto (-18), 3) := by decide +kernel
theorem dX0_memoriesAnywhere_25 : decode cX0_memoriesAnywhere 25 = .ok (.iload_n 1, 1) := by decide +kernel
theorem dX0_memoriesAnywhere_26 : decode cX0_memoriesAnywhere 26 = .ok (.ireturn, 1) := by decide +kernel
theorem dX0_memoriesHeld_0 : decode cX0_memoriesHeld 0 = .ok (.iconst 0, 1) := by decide +kernel
theorem dX0_memoriesHeld_1 : decode cX0_memoriesHeld 1 = .ok (.istore_n 1, 1) := by decide +kernel
theorem dX0_memoriesHeld_2 : decode cX0_memoriesHeld 2 = .ok (.iconst 0, 1) := by decide +kernel
theorem dX0_memoriesHeld_3 : decode cX0_memoriesHeld 3 = .ok (.istore_n 2, 1) := by decide +kernel
theorem dX0_memoriesHeld_4 : decode cX0_memoriesHeld 4 = .ok (.iload_n 2, 1) := by decide +kernel
theorem dX0_memoriesHeld_5 : decode cX0_memoriesHeld 5 = .ok (.aload_n 0, 1) := by decide +kernel
theorem dX0_memoriesHeld_6 : decode cX0_memoriesHeld 6 = .ok (.getfield 37, 3) := by decide +kernel
theorem dX0_memoriesHeld_9 : decode cX0_memoriesHeld 9 = .ok (.if_icmp .ge 18, 3) := by decide +kernel
theorem dX0_memoriesHeld_12 : decode cX0_memoriesHeld 12 = .ok (.iload_n 1, 1) := by decide +kernel
theorem dX0_memoriesHeld_13 : decode cX0_memoriesHeld 13 = .ok (.aload_n 0, 1) := by decide +kernel
theorem dX0_memoriesHeld_14 : decode cX0_memoriesHeld 14 = .ok (.getfield 21, 3) := by decide +kernel
theorem dX0_memoriesHeld_17 : decode cX0_memoriesHeld 17 = .ok (.iload_n 2, 1) := by decide +kernel
theorem dX0_memoriesHeld_18 : decode cX0_memoriesHeld 18 = .ok (.iaload, 1) := by decide +kernel
theorem dX0_memoriesHeld_19 : decode cX0_memoriesHeld 19 = .ok (.ior, 1) := by decide +kernel
theorem dX0_memoriesHeld_20 : decode cX0_memoriesHeld 20 = .ok (.istore_n 1, 1) := by decide +kernel
theorem dX0_memoriesHeld_21 : decode cX0_memoriesHeld 21 = .ok (.iinc 2 1, 3) := by decide +kernel
theorem dX0_memoriesHeld_24 : decode cX0_memoriesHeld 24 = .ok (.goto (-20), 3) := by decide +kernel
theorem dX0_memoriesHeld_27 : decode cX0_memoriesHeld 27 = .ok (.iload_n 1, 1) := by decide +kernel
theorem dX0_memoriesHeld_28 : decode cX0_memoriesHeld 28 = .ok (.ireturn, 1) := by decide +kernel
theorem dX0_grimeOfAll_0 : decode cX0_grimeOfAll 0 = .ok (.iconst 0, 1) := by decide +kernel
theorem dX0_grimeOfAll_1 : decode cX0_grimeOfAll 1 = .ok (.istore_n 1, 1) := by decide +kernel
theorem dX0_grimeOfAll_2 : decode cX0_grimeOfAll 2 = .ok (.iconst 0, 1) := by decide +kernel
theorem dX0_grimeOfAll_3 : decode cX0_grimeOfAll 3 = .ok (.istore_n 2, 1) := by decide +kernel
theorem dX0_grimeOfAll_4 : decode cX0_grimeOfAll 4 = .ok (.iload_n 2, 1) := by decide +kernel
theorem dX0_grimeOfAll_5 : decode cX0_grimeOfAll 5 = .ok (.aload_n 0, 1) := by decide +kernel
theorem dX0_grimeOfAll_6 : decode cX0_grimeOfAll 6 = .ok (.getfield 37, 3) := by decide +kernel
theorem dX0_grimeOfAll_9 : decode cX0_grimeOfAll 9 = .ok (.if_icmp .ge 18, 3) := by decide +kernel
theorem dX0_grimeOfAll_12 : decode cX0_grimeOfAll 12 = .ok (.iload_n 1, 1) := by decide +kernel
theorem dX0_grimeOfAll_13 : decode cX0_grimeOfAll 13 = .ok (.aload_n 0, 1) := by decide +kernel
theorem dX0_grimeOfAll_14 : decode cX0_grimeOfAll 14 = .ok (.getfield 24, 3) := by decide +kernel
theorem dX0_grimeOfAll_17 : decode cX0_grimeOfAll 17 = .ok (.iload_n 2, 1) := by decide +kernel
theorem dX0_grimeOfAll_18 : decode cX0_grimeOfAll 18 = .ok (.iaload, 1) := by decide +kernel
theorem dX0_grimeOfAll_19 : decode cX0_grimeOfAll 19 = .ok (.iadd, 1) := by decide +kernel
theorem dX0_grimeOfAll_20 : decode cX0_grimeOfAll 20 = .ok (.istore_n 1, 1) := by decide +kernel
theorem dX0_grimeOfAll_21 : decode cX0_grimeOfAll 21 = .ok (.iinc 2 1, 3) := by decide +kernel
theorem dX0_grimeOfAll_24 : decode cX0_grimeOfAll 24 = .ok (.goto (-20), 3) := by decide +kernel
theorem dX0_grimeOfAll_27 : decode cX0_grimeOfAll 27 = .ok (.iload_n 1, 1) := by decide +kernel
theorem dX0_grimeOfAll_28 : decode cX0_grimeOfAll 28 = .ok (.ireturn, 1) := by decide +kernel
theorem dX0_leastOf_0 : decode cX0_leastOf 0 = .ok (.iload_n 0, 1) := by decide +kernel
theorem dX0_leastOf_1 : decode cX0_leastOf 1 = .ok (.istore_n 2, 1) := by decide +kernel
theorem dX0_leastOf_2 : decode cX0_leastOf 2 = .ok (.iconst 0, 1) := by decide +kernel
theorem dX0_leastOf_3 : decode cX0_leastOf 3 = .ok (.istore_n 3, 1) := by decide +kernel
theorem dX0_leastOf_4 : decode cX0_leastOf 4 = .ok (.iload_n 3, 1) := by decide +kernel
theorem dX0_leastOf_5 : decode cX0_leastOf 5 = .ok (.iload_n 1, 1) := by decide +kernel
theorem dX0_leastOf_6 : decode cX0_leastOf 6 = .ok (.if_icmp .ge 19, 3) := by decide +kernel
theorem dX0_leastOf_9 : decode cX0_leastOf 9 = .ok (.iload_n 2, 1) := by decide +kernel
theorem dX0_leastOf_10 : decode cX0_leastOf 10 = .ok (.ifCond .eq 15, 3) := by decide +kernel
theorem dX0_leastOf_13 : decode cX0_leastOf 13 = .ok (.iload_n 2, 1) := by decide +kernel
theorem dX0_leastOf_14 : decode cX0_leastOf 14 = .ok (.iload_n 2, 1) := by decide +kernel
theorem dX0_leastOf_15 : decode cX0_leastOf 15 = .ok (.iconst 1, 1) := by decide +kernel
theorem dX0_leastOf_16 : decode cX0_leastOf 16 = .ok (.isub, 1) := by decide +kernel
theorem dX0_leastOf_17 : decode cX0_leastOf 17 = .ok (.iand, 1) := by decide +kernel
theorem dX0_leastOf_18 : decode cX0_leastOf 18 = .ok (.istore_n 2, 1) := by decide +kernel
theorem dX0_leastOf_19 : decode cX0_leastOf 19 = .ok (.iinc 3 1, 3) := by decide +kernel
theorem dX0_leastOf_22 : decode cX0_leastOf 22 = .ok (.goto (-18), 3) := by decide +kernel
theorem dX0_leastOf_25 : decode cX0_leastOf 25 = .ok (.iload_n 0, 1) := by decide +kernel
theorem dX0_leastOf_26 : decode cX0_leastOf 26 = .ok (.iload_n 2, 1) := by decide +kernel
theorem dX0_leastOf_27 : decode cX0_leastOf 27 = .ok (.iconst (-1), 1) := by decide +kernel
theorem dX0_leastOf_28 : decode cX0_leastOf 28 = .ok (.ixor, 1) := by decide +kernel
theorem dX0_leastOf_29 : decode cX0_leastOf 29 = .ok (.iand, 1) := by decide +kernel
theorem dX0_leastOf_30 : decode cX0_leastOf 30 = .ok (.ireturn, 1) := by decide +kernel
theorem dX1_isUnder_0 : decode cX1_isUnder 0 = .ok (.iload_n 0, 1) := by decide +kernel
theorem dX1_isUnder_1 : decode cX1_isUnder 1 = .ok (.iload_n 1, 1) := by decide +kernel
theorem dX1_isUnder_2 : decode cX1_isUnder 2 = .ok (.if_icmp .eq 7, 3) := by decide +kernel
theorem dX1_isUnder_5 : decode cX1_isUnder 5 = .ok (.iload_n 1, 1) := by decide +kernel
theorem dX1_isUnder_6 : decode cX1_isUnder 6 = .ok (.ifCond .ne 5, 3) := by decide +kernel
theorem dX1_isUnder_9 : decode cX1_isUnder 9 = .ok (.iconst 1, 1) := by decide +kernel
theorem dX1_isUnder_10 : decode cX1_isUnder 10 = .ok (.ireturn, 1) := by decide +kernel
theorem dX1_isUnder_11 : decode cX1_isUnder 11 = .ok (.iload_n 0, 1) := by decide +kernel
theorem dX1_isUnder_12 : decode cX1_isUnder 12 = .ok (.iconst 4, 1) := by decide +kernel
theorem dX1_isUnder_13 : decode cX1_isUnder 13 = .ok (.if_icmp .ne 8, 3) := by decide +kernel
theorem dX1_isUnder_16 : decode cX1_isUnder 16 = .ok (.iload_n 1, 1) := by decide +kernel
theorem dX1_isUnder_17 : decode cX1_isUnder 17 = .ok (.iconst 1, 1) := by decide +kernel
theorem dX1_isUnder_18 : decode cX1_isUnder 18 = .ok (.if_icmp .eq 13, 3) := by decide +kernel
theorem dX1_isUnder_21 : decode cX1_isUnder 21 = .ok (.iload_n 0, 1) := by decide +kernel
theorem dX1_isUnder_22 : decode cX1_isUnder 22 = .ok (.iconst 5, 1) := by decide +kernel
theorem dX1_isUnder_23 : decode cX1_isUnder 23 = .ok (.if_icmp .ne 12, 3) := by decide +kernel
theorem dX1_isUnder_26 : decode cX1_isUnder 26 = .ok (.iload_n 1, 1) := by decide +kernel
theorem dX1_isUnder_27 : decode cX1_isUnder 27 = .ok (.iconst 2, 1) := by decide +kernel
theorem dX1_isUnder_28 : decode cX1_isUnder 28 = .ok (.if_icmp .ne 7, 3) := by decide +kernel
theorem dX1_isUnder_31 : decode cX1_isUnder 31 = .ok (.iconst 1, 1) := by decide +kernel
theorem dX1_isUnder_32 : decode cX1_isUnder 32 = .ok (.goto 4, 3) := by decide +kernel
theorem dX1_isUnder_35 : decode cX1_isUnder 35 = .ok (.iconst 0, 1) := by decide +kernel
theorem dX1_isUnder_36 : decode cX1_isUnder 36 = .ok (.ireturn, 1) := by decide +kernel
theorem dX1_wipes_0 : decode cX1_wipes 0 = .ok (.bipush 12, 2) := by decide +kernel
theorem dX1_wipes_2 : decode cX1_wipes 2 = .ok (.iload_n 1, 1) := by decide +kernel
theorem dX1_wipes_3 : decode cX1_wipes 3 = .ok (.bipush 10, 2) := by decide +kernel
theorem dX1_wipes_5 : decode cX1_wipes 5 = .ok (.idiv, 1) := by decide +kernel
theorem dX1_wipes_6 : decode cX1_wipes 6 = .ok (.isub, 1) := by decide +kernel
theorem dX1_wipes_7 : decode cX1_wipes 7 = .ok (.istore_n 2, 1) := by decide +kernel
theorem dX1_wipes_8 : decode cX1_wipes 8 = .ok (.iload_n 2, 1) := by decide +kernel
theorem dX1_wipes_9 : decode cX1_wipes 9 = .ok (.iconst 3, 1) := by decide +kernel
theorem dX1_wipes_10 : decode cX1_wipes 10 = .ok (.iadd, 1) := by decide +kernel
theorem dX1_wipes_11 : decode cX1_wipes 11 = .ok (.istore_n 3, 1) := by decide +kernel
theorem dX1_wipes_12 : decode cX1_wipes 12 = .ok (.iload_n 1, 1) := by decide +kernel
theorem dX1_wipes_13 : decode cX1_wipes 13 = .ok (.bipush 20, 2) := by decide +kernel
theorem dX1_wipes_15 : decode cX1_wipes 15 = .ok (.if_icmp .ge 9, 3) := by decide +kernel
theorem dX1_wipes_18 : decode cX1_wipes 18 = .ok (.iload_n 2, 1) := by decide +kernel
theorem dX1_wipes_19 : decode cX1_wipes 19 = .ok (.iconst 2, 1) := by decide +kernel
theorem dX1_wipes_20 : decode cX1_wipes 20 = .ok (.imul, 1) := by decide +kernel
theorem dX1_wipes_21 : decode cX1_wipes 21 = .ok (.goto 4, 3) := by decide +kernel
theorem dX1_wipes_24 : decode cX1_wipes 24 = .ok (.iload_n 2, 1) := by decide +kernel
theorem dX1_wipes_25 : decode cX1_wipes 25 = .ok (.istore 4, 2) := by decide +kernel
theorem dX1_wipes_27 : decode cX1_wipes 27 = .ok (.iload_n 0, 1) := by decide +kernel
theorem dX1_wipes_28 : decode cX1_wipes 28 = .ok (.tableswitch 53 1 5 #[36, 38, 41, 44, 48], 36) := by decide +kernel
theorem dX1_wipes_64 : decode cX1_wipes 64 = .ok (.iload_n 3, 1) := by decide +kernel
theorem dX1_wipes_65 : decode cX1_wipes 65 = .ok (.ireturn, 1) := by decide +kernel
theorem dX1_wipes_66 : decode cX1_wipes 66 = .ok (.iload 4, 2) := by decide +kernel
theorem dX1_wipes_68 : decode cX1_wipes 68 = .ok (.ireturn, 1) := by decide +kernel
theorem dX1_wipes_69 : decode cX1_wipes 69 = .ok (.bipush 9, 2) := by decide +kernel
theorem dX1_wipes_71 : decode cX1_wipes 71 = .ok (.ireturn, 1) := by decide +kernel
theorem dX1_wipes_72 : decode cX1_wipes 72 = .ok (.iload_n 3, 1) := by decide +kernel
theorem dX1_wipes_73 : decode cX1_wipes 73 = .ok (.iconst 5, 1) := by decide +kernel
theorem dX1_wipes_74 : decode cX1_wipes 74 = .ok (.isub, 1) := by decide +kernel
theorem dX1_wipes_75 : decode cX1_wipes 75 = .ok (.ireturn, 1) := by decide +kernel
theorem dX1_wipes_76 : decode cX1_wipes 76 = .ok (.iload 4, 2) := by decide +kernel
theorem dX1_wipes_78 : decode cX1_wipes 78 = .ok (.iconst 1, 1) := by decide +kernel
theorem dX1_wipes_79 : decode cX1_wipes 79 = .ok (.isub, 1) := by decide +kernel
theorem dX1_wipes_80 : decode cX1_wipes 80 = .ok (.ireturn, 1) := by decide +kernel
theorem dX1_wipes_81 : decode cX1_wipes 81 = .ok (.iload_n 2, 1) := by decide +kernel
theorem dX1_wipes_82 : decode cX1_wipes 82 = .ok (.ireturn, 1) := by decide +kernel
theorem dX1_takesUp_0 : decode cX1_takesUp 0 = .ok (.iload_n 0, 1) := by decide +kernel
theorem dX1_takesUp_1 : decode cX1_takesUp 1 = .ok (.tableswitch 54 1 5 #[35, 37, 49, 35, 52], 35) := by decide +kernel
theorem dX1_takesUp_36 : decode cX1_takesUp 36 = .ok (.iconst 2, 1) := by decide +kernel
theorem dX1_takesUp_37 : decode cX1_takesUp 37 = .ok (.ireturn, 1) := by decide +kernel
theorem dX1_takesUp_38 : decode cX1_takesUp 38 = .ok (.iload_n 1, 1) := by decide +kernel
theorem dX1_takesUp_39 : decode cX1_takesUp 39 = .ok (.bipush 60, 2) := by decide +kernel
theorem dX1_takesUp_41 : decode cX1_takesUp 41 = .ok (.if_icmp .le 7, 3) := by decide +kernel
theorem dX1_takesUp_44 : decode cX1_takesUp 44 = .ok (.iconst 0, 1) := by decide +kernel
theorem dX1_takesUp_45 : decode cX1_takesUp 45 = .ok (.goto 4, 3) := by decide +kernel
theorem dX1_takesUp_48 : decode cX1_takesUp 48 = .ok (.iconst 1, 1) := by decide +kernel
theorem dX1_takesUp_49 : decode cX1_takesUp 49 = .ok (.ireturn, 1) := by decide +kernel
theorem dX1_takesUp_50 : decode cX1_takesUp 50 = .ok (.bipush 9, 2) := by decide +kernel
theorem dX1_takesUp_52 : decode cX1_takesUp 52 = .ok (.ireturn, 1) := by decide +kernel
theorem dX1_takesUp_53 : decode cX1_takesUp 53 = .ok (.iconst 0, 1) := by decide +kernel
theorem dX1_takesUp_54 : decode cX1_takesUp 54 = .ok (.ireturn, 1) := by decide +kernel
theorem dX1_takesUp_55 : decode cX1_takesUp 55 = .ok (.iconst 1, 1) := by decide +kernel
theorem dX1_takesUp_56 : decode cX1_takesUp 56 = .ok (.ireturn, 1) := by decide +kernel
theorem dX1_leaves_0 : decode cX1_leaves 0 = .ok (.iload_n 1, 1) := by decide +kernel
theorem dX1_leaves_1 : decode cX1_leaves 1 = .ok (.bipush 25, 2) := by decide +kernel
theorem dX1_leaves_3 : decode cX1_leaves 3 = .ok (.idiv, 1) := by decide +kernel
theorem dX1_leaves_4 : decode cX1_leaves 4 = .ok (.istore_n 2, 1) := by decide +kernel
theorem dX1_leaves_5 : decode cX1_leaves 5 = .ok (.iload_n 0, 1) := by decide +kernel
theorem dX1_leaves_6 : decode cX1_leaves 6 = .ok (.tableswitch 64 1 5 #[34, 64, 38, 46, 52], 34) := by decide +kernel
theorem dX1_leaves_40 : decode cX1_leaves 40 = .ok (.iload_n 2, 1) := by decide +kernel
theorem dX1_leaves_41 : decode cX1_leaves 41 = .ok (.iconst 1, 1) := by decide +kernel
theorem dX1_leaves_42 : decode cX1_leaves 42 = .ok (.iadd, 1) := by decide +kernel
theorem dX1_leaves_43 : decode cX1_leaves 43 = .ok (.ireturn, 1) := by decide +kernel
theorem dX1_leaves_44 : decode cX1_leaves 44 = .ok (.iconst 0, 1) := by decide +kernel
theorem dX1_leaves_45 : decode cX1_leaves 45 = .ok (.iload_n 2, 1) := by decide +kernel
theorem dX1_leaves_46 : decode cX1_leaves 46 = .ok (.iconst 1, 1) := by decide +kernel
theorem dX1_leaves_47 : decode cX1_leaves 47 = .ok (.isub, 1) := by decide +kernel
theorem dX1_leaves_48 : decode cX1_leaves 48 = .ok (.invokestatic 9, 3) := by decide +kernel
theorem dX1_leaves_51 : decode cX1_leaves 51 = .ok (.ireturn, 1) := by decide +kernel
theorem dX1_leaves_52 : decode cX1_leaves 52 = .ok (.iload_n 2, 1) := by decide +kernel
theorem dX1_leaves_53 : decode cX1_leaves 53 = .ok (.iconst 1, 1) := by decide +kernel
theorem dX1_leaves_54 : decode cX1_leaves 54 = .ok (.iadd, 1) := by decide +kernel
theorem dX1_leaves_55 : decode cX1_leaves 55 = .ok (.iconst 2, 1) := by decide +kernel
theorem dX1_leaves_56 : decode cX1_leaves 56 = .ok (.imul, 1) := by decide +kernel
theorem dX1_leaves_57 : decode cX1_leaves 57 = .ok (.ireturn, 1) := by decide +kernel
theorem dX1_leaves_58 : decode cX1_leaves 58 = .ok (.iload_n 1, 1) := by decide +kernel
theorem dX1_leaves_59 : decode cX1_leaves 59 = .ok (.ifCond .ne 9, 3) := by decide +kernel
theorem dX1_leaves_62 : decode cX1_leaves 62 = .ok (.iload_n 2, 1) := by decide +kernel
theorem dX1_leaves_63 : decode cX1_leaves 63 = .ok (.iconst 1, 1) := by decide +kernel
theorem dX1_leaves_64 : decode cX1_leaves 64 = .ok (.iadd, 1) := by decide +kernel
theorem dX1_leaves_65 : decode cX1_leaves 65 = .ok (.goto 4, 3) := by decide +kernel
theorem dX1_leaves_68 : decode cX1_leaves 68 = .ok (.iload_n 2, 1) := by decide +kernel
theorem dX1_leaves_69 : decode cX1_leaves 69 = .ok (.ireturn, 1) := by decide +kernel
theorem dX1_leaves_70 : decode cX1_leaves 70 = .ok (.iload_n 2, 1) := by decide +kernel
theorem dX1_leaves_71 : decode cX1_leaves 71 = .ok (.ireturn, 1) := by decide +kernel
theorem dX1_keeps_0 : decode cX1_keeps 0 = .ok (.iload_n 0, 1) := by decide +kernel
theorem dX1_keeps_1 : decode cX1_keeps 1 = .ok (.lookupswitch 43 #[(2, 27), (5, 29)], 27) := by decide +kernel
theorem dX1_keeps_28 : decode cX1_keeps 28 = .ok (.iconst 0, 1) := by decide +kernel
theorem dX1_keeps_29 : decode cX1_keeps 29 = .ok (.ireturn, 1) := by decide +kernel
theorem dX1_keeps_30 : decode cX1_keeps 30 = .ok (.iload_n 1, 1) := by decide +kernel
theorem dX1_keeps_31 : decode cX1_keeps 31 = .ok (.invokestatic 15, 3) := by decide +kernel
theorem dX1_keeps_34 : decode cX1_keeps 34 = .ok (.iconst 5, 1) := by decide +kernel
theorem dX1_keeps_35 : decode cX1_keeps 35 = .ok (.if_icmp .lt 7, 3) := by decide +kernel
theorem dX1_keeps_38 : decode cX1_keeps 38 = .ok (.iconst 1, 1) := by decide +kernel
theorem dX1_keeps_39 : decode cX1_keeps 39 = .ok (.goto 4, 3) := by decide +kernel
theorem dX1_keeps_42 : decode cX1_keeps 42 = .ok (.iconst 0, 1) := by decide +kernel
theorem dX1_keeps_43 : decode cX1_keeps 43 = .ok (.ireturn, 1) := by decide +kernel
theorem dX1_keeps_44 : decode cX1_keeps 44 = .ok (.iconst 1, 1) := by decide +kernel
theorem dX1_keeps_45 : decode cX1_keeps 45 = .ok (.ireturn, 1) := by decide +kernel
theorem dX2_init_0 : decode cX2_init 0 = .ok (.aload_n 0, 1) := by decide +kernel
theorem dX2_init_1 : decode cX2_init 1 = .ok (.invokespecial 3, 3) := by decide +kernel
theorem dX2_init_4 : decode cX2_init 4 = .ok (.aload_n 0, 1) := by decide +kernel
theorem dX2_init_5 : decode cX2_init 5 = .ok (.bipush 40, 2) := by decide +kernel
theorem dX2_init_7 : decode cX2_init 7 = .ok (.newarray .long, 2) := by decide +kernel
theorem dX2_init_9 : decode cX2_init 9 = .ok (.putfield 9, 3) := by decide +kernel
theorem dX2_init_12 : decode cX2_init 12 = .ok (.aload_n 0, 1) := by decide +kernel
theorem dX2_init_13 : decode cX2_init 13 = .ok (.iconst 0, 1) := by decide +kernel
theorem dX2_init_14 : decode cX2_init 14 = .ok (.putfield 15, 3) := by decide +kernel
theorem dX2_init_17 : decode cX2_init 17 = .ok (.aload_n 0, 1) := by decide +kernel
theorem dX2_init_18 : decode cX2_init 18 = .ok (.iconst 0, 1) := by decide +kernel
theorem dX2_init_19 : decode cX2_init 19 = .ok (.putfield 19, 3) := by decide +kernel
theorem dX2_init_22 : decode cX2_init 22 = .ok (.return_, 1) := by decide +kernel
theorem dX2_isMissing_0 : decode cX2_isMissing 0 = .ok (.aload_n 0, 1) := by decide +kernel
theorem dX2_isMissing_1 : decode cX2_isMissing 1 = .ok (.getfield 15, 3) := by decide +kernel
theorem dX2_isMissing_4 : decode cX2_isMissing 4 = .ok (.ifCond .ne 7, 3) := by decide +kernel
theorem dX2_isMissing_7 : decode cX2_isMissing 7 = .ok (.iconst 1, 1) := by decide +kernel
theorem dX2_isMissing_8 : decode cX2_isMissing 8 = .ok (.goto 4, 3) := by decide +kernel
theorem dX2_isMissing_11 : decode cX2_isMissing 11 = .ok (.iconst 0, 1) := by decide +kernel
theorem dX2_isMissing_12 : decode cX2_isMissing 12 = .ok (.ireturn, 1) := by decide +kernel
theorem dX2_begin_0 : decode cX2_begin 0 = .ok (.aload_n 0, 1) := by decide +kernel
theorem dX2_begin_1 : decode cX2_begin 1 = .ok (.iload_n 1, 1) := by decide +kernel
theorem dX2_begin_2 : decode cX2_begin 2 = .ok (.putfield 15, 3) := by decide +kernel
theorem dX2_begin_5 : decode cX2_begin 5 = .ok (.aload_n 0, 1) := by decide +kernel
theorem dX2_begin_6 : decode cX2_begin 6 = .ok (.iload_n 1, 1) := by decide +kernel
theorem dX2_begin_7 : decode cX2_begin 7 = .ok (.ifCond .ne 7, 3) := by decide +kernel
theorem dX2_begin_10 : decode cX2_begin 10 = .ok (.iconst 0, 1) := by decide +kernel
theorem dX2_begin_11 : decode cX2_begin 11 = .ok (.goto 4, 3) := by decide +kernel
theorem dX2_begin_14 : decode cX2_begin 14 = .ok (.iload_n 2, 1) := by decide +kernel
theorem dX2_begin_15 : decode cX2_begin 15 = .ok (.putfield 19, 3) := by decide +kernel
theorem dX2_begin_18 : decode cX2_begin 18 = .ok (.iconst 0, 1) := by decide +kernel
theorem dX2_begin_19 : decode cX2_begin 19 = .ok (.istore_n 3, 1) := by decide +kernel
theorem dX2_begin_20 : decode cX2_begin 20 = .ok (.iload_n 3, 1) := by decide +kernel
theorem dX2_begin_21 : decode cX2_begin 21 = .ok (.bipush 40, 2) := by decide +kernel
theorem dX2_begin_23 : decode cX2_begin 23 = .ok (.if_icmp .ge 16, 3) := by decide +kernel
theorem dX2_begin_26 : decode cX2_begin 26 = .ok (.aload_n 0, 1) := by decide +kernel
theorem dX2_begin_27 : decode cX2_begin 27 = .ok (.getfield 9, 3) := by decide +kernel
theorem dX2_begin_30 : decode cX2_begin 30 = .ok (.iload_n 3, 1) := by decide +kernel
theorem dX2_begin_31 : decode cX2_begin 31 = .ok (.lconst 0, 1) := by decide +kernel
theorem dX2_begin_32 : decode cX2_begin 32 = .ok (.lastore, 1) := by decide +kernel
theorem dX2_begin_33 : decode cX2_begin 33 = .ok (.iinc 3 1, 3) := by decide +kernel
theorem dX2_begin_36 : decode cX2_begin 36 = .ok (.goto (-16), 3) := by decide +kernel
theorem dX2_begin_39 : decode cX2_begin 39 = .ok (.aload_n 0, 1) := by decide +kernel
theorem dX2_begin_40 : decode cX2_begin 40 = .ok (.getfield 19, 3) := by decide +kernel
theorem dX2_begin_43 : decode cX2_begin 43 = .ok (.ireturn, 1) := by decide +kernel
theorem dX2_put_0 : decode cX2_put 0 = .ok (.aload_n 0, 1) := by decide +kernel
theorem dX2_put_1 : decode cX2_put 1 = .ok (.getfield 9, 3) := by decide +kernel
theorem dX2_put_4 : decode cX2_put 4 = .ok (.iload_n 1, 1) := by decide +kernel
theorem dX2_put_5 : decode cX2_put 5 = .ok (.aload_n 0, 1) := by decide +kernel
theorem dX2_put_6 : decode cX2_put 6 = .ok (.getfield 15, 3) := by decide +kernel
theorem dX2_put_9 : decode cX2_put 9 = .ok (.bipush 8, 2) := by decide +kernel
theorem dX2_put_11 : decode cX2_put 11 = .ok (.if_icmp .ne 10, 3) := by decide +kernel
theorem dX2_put_14 : decode cX2_put 14 = .ok (.lload_n 2, 1) := by decide +kernel
theorem dX2_put_15 : decode cX2_put 15 = .ok (.l2i, 1) := by decide +kernel
theorem dX2_put_16 : decode cX2_put 16 = .ok (.i2b, 1) := by decide +kernel
theorem dX2_put_17 : decode cX2_put 17 = .ok (.i2l, 1) := by decide +kernel
theorem dX2_put_18 : decode cX2_put 18 = .ok (.goto 20, 3) := by decide +kernel
theorem dX2_put_21 : decode cX2_put 21 = .ok (.aload_n 0, 1) := by decide +kernel
theorem dX2_put_22 : decode cX2_put 22 = .ok (.getfield 15, 3) := by decide +kernel
theorem dX2_put_25 : decode cX2_put 25 = .ok (.bipush 16, 2) := by decide +kernel
theorem dX2_put_27 : decode cX2_put 27 = .ok (.if_icmp .ne 10, 3) := by decide +kernel
theorem dX2_put_30 : decode cX2_put 30 = .ok (.lload_n 2, 1) := by decide +kernel
theorem dX2_put_31 : decode cX2_put 31 = .ok (.l2i, 1) := by decide +kernel
theorem dX2_put_32 : decode cX2_put 32 = .ok (.i2s, 1) := by decide +kernel
theorem dX2_put_33 : decode cX2_put 33 = .ok (.i2l, 1) := by decide +kernel
theorem dX2_put_34 : decode cX2_put 34 = .ok (.goto 4, 3) := by decide +kernel
theorem dX2_put_37 : decode cX2_put 37 = .ok (.lload_n 2, 1) := by decide +kernel
theorem dX2_put_38 : decode cX2_put 38 = .ok (.lastore, 1) := by decide +kernel
theorem dX2_put_39 : decode cX2_put 39 = .ok (.return_, 1) := by decide +kernel
theorem dX2_hasRun_0 : decode cX2_hasRun 0 = .ok (.iload_n 1, 1) := by decide +kernel
theorem dX2_hasRun_1 : decode cX2_hasRun 1 = .ok (.ifCond .lt 29, 3) := by decide +kernel
theorem dX2_hasRun_4 : decode cX2_hasRun 4 = .ok (.iload_n 2, 1) := by decide +kernel
theorem dX2_hasRun_5 : decode cX2_hasRun 5 = .ok (.ifCond .lt 25, 3) := by decide +kernel
theorem dX2_hasRun_8 : decode cX2_hasRun 8 = .ok (.iload_n 2, 1) := by decide +kernel
theorem dX2_hasRun_9 : decode cX2_hasRun 9 = .ok (.aload_n 0, 1) := by decide +kernel
theorem dX2_hasRun_10 : decode cX2_hasRun 10 = .ok (.getfield 19, 3) := by decide +kernel
theorem dX2_hasRun_13 : decode cX2_hasRun 13 = .ok (.if_icmp .gt 17, 3) := by decide +kernel
theorem dX2_hasRun_16 : decode cX2_hasRun 16 = .ok (.iload_n 1, 1) := by decide +kernel
theorem dX2_hasRun_17 : decode cX2_hasRun 17 = .ok (.aload_n 0, 1) := by decide +kernel
theorem dX2_hasRun_18 : decode cX2_hasRun 18 = .ok (.getfield 19, 3) := by decide +kernel
theorem dX2_hasRun_21 : decode cX2_hasRun 21 = .ok (.iload_n 2, 1) := by decide +kernel
theorem dX2_hasRun_22 : decode cX2_hasRun 22 = .ok (.isub, 1) := by decide +kernel
theorem dX2_hasRun_23 : decode cX2_hasRun 23 = .ok (.if_icmp .gt 7, 3) := by decide +kernel
theorem dX2_hasRun_26 : decode cX2_hasRun 26 = .ok (.iconst 1, 1) := by decide +kernel
theorem dX2_hasRun_27 : decode cX2_hasRun 27 = .ok (.goto 4, 3) := by decide +kernel
theorem dX2_hasRun_30 : decode cX2_hasRun 30 = .ok (.iconst 0, 1) := by decide +kernel
theorem dX2_hasRun_31 : decode cX2_hasRun 31 = .ok (.ireturn, 1) := by decide +kernel
theorem dX3_init_0 : decode cX3_init 0 = .ok (.aload_n 0, 1) := by decide +kernel
theorem dX3_init_1 : decode cX3_init 1 = .ok (.invokespecial 3, 3) := by decide +kernel
theorem dX3_init_4 : decode cX3_init 4 = .ok (.aload_n 0, 1) := by decide +kernel
theorem dX3_init_5 : decode cX3_init 5 = .ok (.bipush 120, 2) := by decide +kernel
theorem dX3_init_7 : decode cX3_init 7 = .ok (.newarray .int, 2) := by decide +kernel
theorem dX3_init_9 : decode cX3_init 9 = .ok (.putfield 9, 3) := by decide +kernel
theorem dX3_init_12 : decode cX3_init 12 = .ok (.aload_n 0, 1) := by decide +kernel
theorem dX3_init_13 : decode cX3_init 13 = .ok (.iconst 0, 1) := by decide +kernel
theorem dX3_init_14 : decode cX3_init 14 = .ok (.putfield 15, 3) := by decide +kernel
theorem dX3_init_17 : decode cX3_init 17 = .ok (.aload_n 0, 1) := by decide +kernel
theorem dX3_init_18 : decode cX3_init 18 = .ok (.iconst 0, 1) := by decide +kernel
theorem dX3_init_19 : decode cX3_init 19 = .ok (.putfield 19, 3) := by decide +kernel
theorem dX3_init_22 : decode cX3_init 22 = .ok (.aload_n 0, 1) := by decide +kernel
theorem dX3_init_23 : decode cX3_init 23 = .ok (.iconst 0, 1) := by decide +kernel
theorem dX3_init_24 : decode cX3_init 24 = .ok (.putfield 22, 3) := by decide +kernel
theorem dX3_init_27 : decode cX3_init 27 = .ok (.aload_n 0, 1) := by decide +kernel
theorem dX3_init_28 : decode cX3_init 28 = .ok (.iconst 0, 1) := by decide +kernel
theorem dX3_init_29 : decode cX3_init 29 = .ok (.putfield 25, 3) := by decide +kernel
theorem dX3_init_32 : decode cX3_init 32 = .ok (.aload_n 0, 1) := by decide +kernel
theorem dX3_init_33 : decode cX3_init 33 = .ok (.iconst 0, 1) := by decide +kernel
theorem dX3_init_34 : decode cX3_init 34 = .ok (.putfield 28, 3) := by decide +kernel
theorem dX3_init_37 : decode cX3_init 37 = .ok (.aload_n 0, 1) := by decide +kernel
theorem dX3_init_38 : decode cX3_init 38 = .ok (.iconst 0, 1) := by decide +kernel
theorem dX3_init_39 : decode cX3_init 39 = .ok (.putfield 31, 3) := by decide +kernel
theorem dX3_init_42 : decode cX3_init 42 = .ok (.return_, 1) := by decide +kernel
theorem dX3_put_0 : decode cX3_put 0 = .ok (.aload_n 0, 1) := by decide +kernel
theorem dX3_put_1 : decode cX3_put 1 = .ok (.getfield 15, 3) := by decide +kernel
theorem dX3_put_4 : decode cX3_put 4 = .ok (.bipush 120, 2) := by decide +kernel
theorem dX3_put_6 : decode cX3_put 6 = .ok (.if_icmp .ge 23, 3) := by decide +kernel
theorem dX3_put_9 : decode cX3_put 9 = .ok (.aload_n 0, 1) := by decide +kernel
theorem dX3_put_10 : decode cX3_put 10 = .ok (.getfield 9, 3) := by decide +kernel
theorem dX3_put_13 : decode cX3_put 13 = .ok (.aload_n 0, 1) := by decide +kernel
theorem dX3_put_14 : decode cX3_put 14 = .ok (.getfield 15, 3) := by decide +kernel
theorem dX3_put_17 : decode cX3_put 17 = .ok (.iload_n 1, 1) := by decide +kernel
theorem dX3_put_18 : decode cX3_put 18 = .ok (.iastore, 1) := by decide +kernel
theorem dX3_put_19 : decode cX3_put 19 = .ok (.aload_n 0, 1) := by decide +kernel
theorem dX3_put_20 : decode cX3_put 20 = .ok (.dup, 1) := by decide +kernel
theorem dX3_put_21 : decode cX3_put 21 = .ok (.getfield 15, 3) := by decide +kernel
theorem dX3_put_24 : decode cX3_put 24 = .ok (.iconst 1, 1) := by decide +kernel
theorem dX3_put_25 : decode cX3_put 25 = .ok (.iadd, 1) := by decide +kernel
theorem dX3_put_26 : decode cX3_put 26 = .ok (.putfield 15, 3) := by decide +kernel
theorem dX3_put_29 : decode cX3_put 29 = .ok (.return_, 1) := by decide +kernel
theorem dX3_tellHouse_0 : decode cX3_tellHouse 0 = .ok (.aload_n 0, 1) := by decide +kernel
theorem dX3_tellHouse_1 : decode cX3_tellHouse 1 = .ok (.iconst 0, 1) := by decide +kernel
theorem dX3_tellHouse_2 : decode cX3_tellHouse 2 = .ok (.putfield 28, 3) := by decide +kernel
theorem dX3_tellHouse_5 : decode cX3_tellHouse 5 = .ok (.aload_n 0, 1) := by decide +kernel
theorem dX3_tellHouse_6 : decode cX3_tellHouse 6 = .ok (.invokevirtual 34, 3) := by decide +kernel
theorem dX3_tellHouse_9 : decode cX3_tellHouse 9 = .ok (.iconst 0, 1) := by decide +kernel
theorem dX3_tellHouse_10 : decode cX3_tellHouse 10 = .ok (.istore_n 2, 1) := by decide +kernel
theorem dX3_tellHouse_11 : decode cX3_tellHouse 11 = .ok (.iload_n 2, 1) := by decide +kernel
theorem dX3_tellHouse_12 : decode cX3_tellHouse 12 = .ok (.bipush 120, 2) := by decide +kernel
theorem dX3_tellHouse_14 : decode cX3_tellHouse 14 = .ok (.if_icmp .gt 45, 3) := by decide +kernel
theorem dX3_tellHouse_17 : decode cX3_tellHouse 17 = .ok (.aload_n 0, 1) := by decide +kernel
theorem dX3_tellHouse_18 : decode cX3_tellHouse 18 = .ok (.aload_n 1, 1) := by decide +kernel
theorem dX3_tellHouse_19 : decode cX3_tellHouse 19 = .ok (.invokevirtual 37, 3) := by decide +kernel
theorem dX3_tellHouse_22 : decode cX3_tellHouse 22 = .ok (.ifCond .eq 37, 3) := by decide +kernel
theorem dX3_tellHouse_25 : decode cX3_tellHouse 25 = .ok (.iinc 2 1, 3) := by decide +kernel
theorem dX3_tellHouse_28 : decode cX3_tellHouse 28 = .ok (.aload_n 0, 1) := by decide +kernel
theorem dX3_tellHouse_29 : decode cX3_tellHouse 29 = .ok (.getfield 19, 3) := by decide +kernel
theorem dX3_tellHouse_32 : decode cX3_tellHouse 32 = .ok (.ifCond .ne 5, 3) := by decide +kernel
theorem dX3_tellHouse_35 : decode cX3_tellHouse 35 = .ok (.iload_n 2, 1) := by decide +kernel
theorem dX3_tellHouse_36 : decode cX3_tellHouse 36 = .ok (.ireturn, 1) := by decide +kernel
theorem dX3_tellHouse_37 : decode cX3_tellHouse 37 = .ok (.aload_n 0, 1) := by decide +kernel
theorem dX3_tellHouse_38 : decode cX3_tellHouse 38 = .ok (.getfield 19, 3) := by decide +kernel
theorem dX3_tellHouse_41 : decode cX3_tellHouse 41 = .ok (.iconst 3, 1) := by decide +kernel
theorem dX3_tellHouse_42 : decode cX3_tellHouse 42 = .ok (.if_icmp .eq 10, 3) := by decide +kernel
theorem dX3_tellHouse_45 : decode cX3_tellHouse 45 = .ok (.iconst (-1), 1) := by decide +kernel
theorem dX3_tellHouse_46 : decode cX3_tellHouse 46 = .ok (.aload_n 0, 1) := by decide +kernel
theorem dX3_tellHouse_47 : decode cX3_tellHouse 47 = .ok (.getfield 25, 3) := by decide +kernel
theorem dX3_tellHouse_50 : decode cX3_tellHouse 50 = .ok (.isub, 1) := by decide +kernel
theorem dX3_tellHouse_51 : decode cX3_tellHouse 51 = .ok (.ireturn, 1) := by decide +kernel
theorem dX3_tellHouse_52 : decode cX3_tellHouse 52 = .ok (.aload_n 0, 1) := by decide +kernel
theorem dX3_tellHouse_53 : decode cX3_tellHouse 53 = .ok (.invokevirtual 34, 3) := by decide +kernel
theorem dX3_tellHouse_56 : decode cX3_tellHouse 56 = .ok (.goto (-45), 3) := by decide +kernel
theorem dX3_tellHouse_59 : decode cX3_tellHouse 59 = .ok (.iconst (-1), 1) := by decide +kernel
theorem dX3_tellHouse_60 : decode cX3_tellHouse 60 = .ok (.aload_n 0, 1) := by decide +kernel
theorem dX3_tellHouse_61 : decode cX3_tellHouse 61 = .ok (.getfield 25, 3) := by decide +kernel
theorem dX3_tellHouse_64 : decode cX3_tellHouse 64 = .ok (.isub, 1) := by decide +kernel
theorem dX3_tellHouse_65 : decode cX3_tellHouse 65 = .ok (.ireturn, 1) := by decide +kernel
theorem dX3_tellItem_0 : decode cX3_tellItem 0 = .ok (.aload_n 0, 1) := by decide +kernel
theorem dX3_tellItem_1 : decode cX3_tellItem 1 = .ok (.getfield 19, 3) := by decide +kernel
theorem dX3_tellItem_4 : decode cX3_tellItem 4 = .ok (.iconst 1, 1) := by decide +kernel
theorem dX3_tellItem_5 : decode cX3_tellItem 5 = .ok (.if_icmp .eq 5, 3) := by decide +kernel
theorem dX3_tellItem_8 : decode cX3_tellItem 8 = .ok (.iconst 0, 1) := by decide +kernel
theorem dX3_tellItem_9 : decode cX3_tellItem 9 = .ok (.ireturn, 1) := by decide +kernel
theorem dX3_tellItem_10 : decode cX3_tellItem 10 = .ok (.aload_n 0, 1) := by decide +kernel
theorem dX3_tellItem_11 : decode cX3_tellItem 11 = .ok (.getfield 22, 3) := by decide +kernel
theorem dX3_tellItem_14 : decode cX3_tellItem 14 = .ok (.tableswitch 64 8 12 #[34, 64, 64, 44, 54], 34) := by decide +kernel
theorem dX3_tellItem_48 : decode cX3_tellItem 48 = .ok (.aload_n 0, 1) := by decide +kernel
theorem dX3_tellItem_49 : decode cX3_tellItem 49 = .ok (.invokevirtual 34, 3) := by decide +kernel
theorem dX3_tellItem_52 : decode cX3_tellItem 52 = .ok (.aload_n 0, 1) := by decide +kernel
theorem dX3_tellItem_53 : decode cX3_tellItem 53 = .ok (.aload_n 1, 1) := by decide +kernel
theorem dX3_tellItem_54 : decode cX3_tellItem 54 = .ok (.invokevirtual 41, 3) := by decide +kernel
theorem dX3_tellItem_57 : decode cX3_tellItem 57 = .ok (.ireturn, 1) := by decide +kernel
theorem dX3_tellItem_58 : decode cX3_tellItem 58 = .ok (.aload_n 0, 1) := by decide +kernel
theorem dX3_tellItem_59 : decode cX3_tellItem 59 = .ok (.invokevirtual 34, 3) := by decide +kernel
theorem dX3_tellItem_62 : decode cX3_tellItem 62 = .ok (.aload_n 0, 1) := by decide +kernel
theorem dX3_tellItem_63 : decode cX3_tellItem 63 = .ok (.aload_n 1, 1) := by decide +kernel
theorem dX3_tellItem_64 : decode cX3_tellItem 64 = .ok (.invokevirtual 44, 3) := by decide +kernel
theorem dX3_tellItem_67 : decode cX3_tellItem 67 = .ok (.ireturn, 1) := by decide +kernel
theorem dX3_tellItem_68 : decode cX3_tellItem 68 = .ok (.aload_n 0, 1) := by decide +kernel
theorem dX3_tellItem_69 : decode cX3_tellItem 69 = .ok (.invokevirtual 34, 3) := by decide +kernel
theorem dX3_tellItem_72 : decode cX3_tellItem 72 = .ok (.aload_n 0, 1) := by decide +kernel
theorem dX3_tellItem_73 : decode cX3_tellItem 73 = .ok (.aload_n 1, 1) := by decide +kernel
theorem dX3_tellItem_74 : decode cX3_tellItem 74 = .ok (.invokevirtual 47, 3) := by decide +kernel
theorem dX3_tellItem_77 : decode cX3_tellItem 77 = .ok (.ireturn, 1) := by decide +kernel
theorem dX3_tellItem_78 : decode cX3_tellItem 78 = .ok (.aload_n 0, 1) := by decide +kernel
theorem dX3_tellItem_79 : decode cX3_tellItem 79 = .ok (.getfield 22, 3) := by decide +kernel
theorem dX3_tellItem_82 : decode cX3_tellItem 82 = .ok (.iconst 5, 1) := by decide +kernel
theorem dX3_tellItem_83 : decode cX3_tellItem 83 = .ok (.if_icmp .gt 15, 3) := by decide +kernel
theorem dX3_tellItem_86 : decode cX3_tellItem 86 = .ok (.aload_n 0, 1) := by decide +kernel
theorem dX3_tellItem_87 : decode cX3_tellItem 87 = .ok (.aload_n 1, 1) := by decide +kernel
theorem dX3_tellItem_88 : decode cX3_tellItem 88 = .ok (.invokevirtual 52, 3) := by decide +kernel
theorem dX3_tellItem_91 : decode cX3_tellItem 91 = .ok (.ifCond .eq 7, 3) := by decide +kernel
theorem dX3_tellItem_94 : decode cX3_tellItem 94 = .ok (.iconst 1, 1) := by decide +kernel
theorem dX3_tellItem_95 : decode cX3_tellItem 95 = .ok (.goto 4, 3) := by decide +kernel
theorem dX3_tellItem_98 : decode cX3_tellItem 98 = .ok (.iconst 0, 1) := by decide +kernel
theorem dX3_tellItem_99 : decode cX3_tellItem 99 = .ok (.ireturn, 1) := by decide +kernel
theorem dX3_tellDuster_0 : decode cX3_tellDuster 0 = .ok (.aload_n 1, 1) := by decide +kernel
theorem dX3_tellDuster_1 : decode cX3_tellDuster 1 = .ok (.aload_n 0, 1) := by decide +kernel
theorem dX3_tellDuster_2 : decode cX3_tellDuster 2 = .ok (.getfield 22, 3) := by decide +kernel
theorem dX3_tellDuster_5 : decode cX3_tellDuster 5 = .ok (.invokevirtual 55, 3) := by decide +kernel
theorem dX3_tellDuster_8 : decode cX3_tellDuster 8 = .ok (.istore_n 2, 1) := by decide +kernel
theorem dX3_tellDuster_9 : decode cX3_tellDuster 9 = .ok (.iload_n 2, 1) := by decide +kernel
theorem dX3_tellDuster_10 : decode cX3_tellDuster 10 = .ok (.ifCond .ge 5, 3) := by decide +kernel
theorem dX3_tellDuster_13 : decode cX3_tellDuster 13 = .ok (.iconst 0, 1) := by decide +kernel
theorem dX3_tellDuster_14 : decode cX3_tellDuster 14 = .ok (.ireturn, 1) := by decide +kernel
theorem dX3_tellDuster_15 : decode cX3_tellDuster 15 = .ok (.aload_n 0, 1) := by decide +kernel
theorem dX3_tellDuster_16 : decode cX3_tellDuster 16 = .ok (.invokevirtual 34, 3) := by decide +kernel
theorem dX3_tellDuster_19 : decode cX3_tellDuster 19 = .ok (.aload_n 0, 1) := by decide +kernel
theorem dX3_tellDuster_20 : decode cX3_tellDuster 20 = .ok (.bipush 6, 2) := by decide +kernel
theorem dX3_tellDuster_22 : decode cX3_tellDuster 22 = .ok (.invokevirtual 61, 3) := by decide +kernel
theorem dX3_tellDuster_25 : decode cX3_tellDuster 25 = .ok (.ifCond .eq 26, 3) := by decide +kernel
theorem dX3_tellDuster_28 : decode cX3_tellDuster 28 = .ok (.aload_n 0, 1) := by decide +kernel
theorem dX3_tellDuster_29 : decode cX3_tellDuster 29 = .ok (.invokevirtual 34, 3) := by decide +kernel
theorem dX3_tellDuster_32 : decode cX3_tellDuster 32 = .ok (.aload_n 0, 1) := by decide +kernel
theorem dX3_tellDuster_33 : decode cX3_tellDuster 33 = .ok (.invokevirtual 65, 3) := by decide +kernel
theorem dX3_tellDuster_36 : decode cX3_tellDuster 36 = .ok (.ifCond .ne 5, 3) := by decide +kernel
theorem dX3_tellDuster_39 : decode cX3_tellDuster 39 = .ok (.iconst 0, 1) := by decide +kernel
theorem dX3_tellDuster_40 : decode cX3_tellDuster 40 = .ok (.ireturn, 1) := by decide +kernel
theorem dX3_tellDuster_41 : decode cX3_tellDuster 41 = .ok (.aload_n 1, 1) := by decide +kernel
theorem dX3_tellDuster_42 : decode cX3_tellDuster 42 = .ok (.getfield 69, 3) := by decide +kernel
theorem dX3_tellDuster_45 : decode cX3_tellDuster 45 = .ok (.iload_n 2, 1) := by decide +kernel
theorem dX3_tellDuster_46 : decode cX3_tellDuster 46 = .ok (.aload_n 0, 1) := by decide +kernel
theorem dX3_tellDuster_47 : decode cX3_tellDuster 47 = .ok (.getfield 31, 3) := by decide +kernel
theorem dX3_tellDuster_50 : decode cX3_tellDuster 50 = .ok (.iastore, 1) := by decide +kernel
theorem dX3_tellDuster_51 : decode cX3_tellDuster 51 = .ok (.aload_n 0, 1) := by decide +kernel
theorem dX3_tellDuster_52 : decode cX3_tellDuster 52 = .ok (.bipush 7, 2) := by decide +kernel
theorem dX3_tellDuster_54 : decode cX3_tellDuster 54 = .ok (.invokevirtual 61, 3) := by decide +kernel
theorem dX3_tellDuster_57 : decode cX3_tellDuster 57 = .ok (.ifCond .eq 32, 3) := by decide +kernel
theorem dX3_tellDuster_60 : decode cX3_tellDuster 60 = .ok (.aload_n 0, 1) := by decide +kernel
theorem dX3_tellDuster_61 : decode cX3_tellDuster 61 = .ok (.invokevirtual 34, 3) := by decide +kernel
theorem dX3_tellDuster_64 : decode cX3_tellDuster 64 = .ok (.aload_n 0, 1) := by decide +kernel
theorem dX3_tellDuster_65 : decode cX3_tellDuster 65 = .ok (.bipush 99, 2) := by decide +kernel
theorem dX3_tellDuster_67 : decode cX3_tellDuster 67 = .ok (.invokevirtual 72, 3) := by decide +kernel
theorem dX3_tellDuster_70 : decode cX3_tellDuster 70 = .ok (.ifCond .ne 5, 3) := by decide +kernel
theorem dX3_tellDuster_73 : decode cX3_tellDuster 73 = .ok (.iconst 0, 1) := by decide +kernel
theorem dX3_tellDuster_74 : decode cX3_tellDuster 74 = .ok (.ireturn, 1) := by decide +kernel
theorem dX3_tellDuster_75 : decode cX3_tellDuster 75 = .ok (.aload_n 1, 1) := by decide +kernel
theorem dX3_tellDuster_76 : decode cX3_tellDuster 76 = .ok (.getfield 75, 3) := by decide +kernel
theorem dX3_tellDuster_79 : decode cX3_tellDuster 79 = .ok (.iload_n 2, 1) := by decide +kernel
theorem dX3_tellDuster_80 : decode cX3_tellDuster 80 = .ok (.aload_n 0, 1) := by decide +kernel
theorem dX3_tellDuster_81 : decode cX3_tellDuster 81 = .ok (.getfield 22, 3) := by decide +kernel
theorem dX3_tellDuster_84 : decode cX3_tellDuster 84 = .ok (.iastore, 1) := by decide +kernel
theorem dX3_tellDuster_85 : decode cX3_tellDuster 85 = .ok (.aload_n 0, 1) := by decide +kernel
theorem dX3_tellDuster_86 : decode cX3_tellDuster 86 = .ok (.invokevirtual 34, 3) := by decide +kernel
theorem dX3_tellDuster_89 : decode cX3_tellDuster 89 = .ok (.iconst 1, 1) := by decide +kernel
theorem dX3_tellDuster_90 : decode cX3_tellDuster 90 = .ok (.ireturn, 1) := by decide +kernel
theorem dX3_tellRoom_0 : decode cX3_tellRoom 0 = .ok (.aload_n 0, 1) := by decide +kernel
theorem dX3_tellRoom_1 : decode cX3_tellRoom 1 = .ok (.bipush 7, 2) := by decide +kernel
theorem dX3_tellRoom_3 : decode cX3_tellRoom 3 = .ok (.invokevirtual 72, 3) := by decide +kernel
theorem dX3_tellRoom_6 : decode cX3_tellRoom 6 = .ok (.ifCond .ne 5, 3) := by decide +kernel
theorem dX3_tellRoom_9 : decode cX3_tellRoom 9 = .ok (.iconst 0, 1) := by decide +kernel
theorem dX3_tellRoom_10 : decode cX3_tellRoom 10 = .ok (.ireturn, 1) := by decide +kernel
theorem dX3_tellRoom_11 : decode cX3_tellRoom 11 = .ok (.aload_n 0, 1) := by decide +kernel
theorem dX3_tellRoom_12 : decode cX3_tellRoom 12 = .ok (.getfield 22, 3) := by decide +kernel
theorem dX3_tellRoom_15 : decode cX3_tellRoom 15 = .ok (.istore_n 2, 1) := by decide +kernel
theorem dX3_tellRoom_16 : decode cX3_tellRoom 16 = .ok (.aload_n 0, 1) := by decide +kernel
theorem dX3_tellRoom_17 : decode cX3_tellRoom 17 = .ok (.invokevirtual 34, 3) := by decide +kernel
theorem dX3_tellRoom_20 : decode cX3_tellRoom 20 = .ok (.aload_n 0, 1) := by decide +kernel
theorem dX3_tellRoom_21 : decode cX3_tellRoom 21 = .ok (.bipush 9, 2) := by decide +kernel
theorem dX3_tellRoom_23 : decode cX3_tellRoom 23 = .ok (.invokevirtual 61, 3) := by decide +kernel
theorem dX3_tellRoom_26 : decode cX3_tellRoom 26 = .ok (.ifCond .eq 32, 3) := by decide +kernel
theorem dX3_tellRoom_29 : decode cX3_tellRoom 29 = .ok (.aload_n 0, 1) := by decide +kernel
theorem dX3_tellRoom_30 : decode cX3_tellRoom 30 = .ok (.invokevirtual 34, 3) := by decide +kernel
theorem dX3_tellRoom_33 : decode cX3_tellRoom 33 = .ok (.aload_n 0, 1) := by decide +kernel
theorem dX3_tellRoom_34 : decode cX3_tellRoom 34 = .ok (.bipush 99, 2) := by decide +kernel
theorem dX3_tellRoom_36 : decode cX3_tellRoom 36 = .ok (.invokevirtual 72, 3) := by decide +kernel
theorem dX3_tellRoom_39 : decode cX3_tellRoom 39 = .ok (.ifCond .ne 5, 3) := by decide +kernel
theorem dX3_tellRoom_42 : decode cX3_tellRoom 42 = .ok (.iconst 0, 1) := by decide +kernel
theorem dX3_tellRoom_43 : decode cX3_tellRoom 43 = .ok (.ireturn, 1) := by decide +kernel
theorem dX3_tellRoom_44 : decode cX3_tellRoom 44 = .ok (.aload_n 1, 1) := by decide +kernel
theorem dX3_tellRoom_45 : decode cX3_tellRoom 45 = .ok (.getfield 78, 3) := by decide +kernel
theorem dX3_tellRoom_48 : decode cX3_tellRoom 48 = .ok (.iload_n 2, 1) := by decide +kernel
theorem dX3_tellRoom_49 : decode cX3_tellRoom 49 = .ok (.aload_n 0, 1) := by decide +kernel
theorem dX3_tellRoom_50 : decode cX3_tellRoom 50 = .ok (.getfield 22, 3) := by decide +kernel
theorem dX3_tellRoom_53 : decode cX3_tellRoom 53 = .ok (.iastore, 1) := by decide +kernel
theorem dX3_tellRoom_54 : decode cX3_tellRoom 54 = .ok (.aload_n 0, 1) := by decide +kernel
theorem dX3_tellRoom_55 : decode cX3_tellRoom 55 = .ok (.invokevirtual 34, 3) := by decide +kernel
theorem dX3_tellRoom_58 : decode cX3_tellRoom 58 = .ok (.aload_n 0, 1) := by decide +kernel
theorem dX3_tellRoom_59 : decode cX3_tellRoom 59 = .ok (.bipush 10, 2) := by decide +kernel
theorem dX3_tellRoom_61 : decode cX3_tellRoom 61 = .ok (.invokevirtual 61, 3) := by decide +kernel
theorem dX3_tellRoom_64 : decode cX3_tellRoom 64 = .ok (.ifCond .eq 26, 3) := by decide +kernel
theorem dX3_tellRoom_67 : decode cX3_tellRoom 67 = .ok (.aload_n 0, 1) := by decide +kernel
theorem dX3_tellRoom_68 : decode cX3_tellRoom 68 = .ok (.invokevirtual 34, 3) := by decide +kernel
theorem dX3_tellRoom_71 : decode cX3_tellRoom 71 = .ok (.aload_n 0, 1) := by decide +kernel
theorem dX3_tellRoom_72 : decode cX3_tellRoom 72 = .ok (.invokevirtual 65, 3) := by decide +kernel
theorem dX3_tellRoom_75 : decode cX3_tellRoom 75 = .ok (.ifCond .ne 5, 3) := by decide +kernel
theorem dX3_tellRoom_78 : decode cX3_tellRoom 78 = .ok (.iconst 0, 1) := by decide +kernel
theorem dX3_tellRoom_79 : decode cX3_tellRoom 79 = .ok (.ireturn, 1) := by decide +kernel
theorem dX3_tellRoom_80 : decode cX3_tellRoom 80 = .ok (.aload_n 1, 1) := by decide +kernel
theorem dX3_tellRoom_81 : decode cX3_tellRoom 81 = .ok (.getfield 81, 3) := by decide +kernel
theorem dX3_tellRoom_84 : decode cX3_tellRoom 84 = .ok (.iload_n 2, 1) := by decide +kernel
theorem dX3_tellRoom_85 : decode cX3_tellRoom 85 = .ok (.aload_n 0, 1) := by decide +kernel
theorem dX3_tellRoom_86 : decode cX3_tellRoom 86 = .ok (.getfield 31, 3) := by decide +kernel
theorem dX3_tellRoom_89 : decode cX3_tellRoom 89 = .ok (.iastore, 1) := by decide +kernel
theorem dX3_tellRoom_90 : decode cX3_tellRoom 90 = .ok (.iconst 1, 1) := by decide +kernel
theorem dX3_tellRoom_91 : decode cX3_tellRoom 91 = .ok (.ireturn, 1) := by decide +kernel
theorem dX3_tellFalls_0 : decode cX3_tellFalls 0 = .ok (.aload_n 0, 1) := by decide +kernel
theorem dX3_tellFalls_1 : decode cX3_tellFalls 1 = .ok (.bipush 20, 2) := by decide +kernel
theorem dX3_tellFalls_3 : decode cX3_tellFalls 3 = .ok (.invokevirtual 72, 3) := by decide +kernel
theorem dX3_tellFalls_6 : decode cX3_tellFalls 6 = .ok (.ifCond .ne 5, 3) := by decide +kernel
theorem dX3_tellFalls_9 : decode cX3_tellFalls 9 = .ok (.iconst 0, 1) := by decide +kernel
theorem dX3_tellFalls_10 : decode cX3_tellFalls 10 = .ok (.ireturn, 1) := by decide +kernel
theorem dX3_tellFalls_11 : decode cX3_tellFalls 11 = .ok (.aload_n 1, 1) := by decide +kernel
theorem dX3_tellFalls_12 : decode cX3_tellFalls 12 = .ok (.aload_n 0, 1) := by decide +kernel
theorem dX3_tellFalls_13 : decode cX3_tellFalls 13 = .ok (.getfield 22, 3) := by decide +kernel
theorem dX3_tellFalls_16 : decode cX3_tellFalls 16 = .ok (.putfield 83, 3) := by decide +kernel
theorem dX3_tellFalls_19 : decode cX3_tellFalls 19 = .ok (.aload_n 0, 1) := by decide +kernel
theorem dX3_tellFalls_20 : decode cX3_tellFalls 20 = .ok (.invokevirtual 34, 3) := by decide +kernel
theorem dX3_tellFalls_23 : decode cX3_tellFalls 23 = .ok (.iconst 1, 1) := by decide +kernel
theorem dX3_tellFalls_24 : decode cX3_tellFalls 24 = .ok (.ireturn, 1) := by decide +kernel
theorem dX3_tellWash_0 : decode cX3_tellWash 0 = .ok (.aload_n 0, 1) := by decide +kernel
theorem dX3_tellWash_1 : decode cX3_tellWash 1 = .ok (.aload_n 1, 1) := by decide +kernel
theorem dX3_tellWash_2 : decode cX3_tellWash 2 = .ok (.getfield 86, 3) := by decide +kernel
theorem dX3_tellWash_5 : decode cX3_tellWash 5 = .ok (.iconst 1, 1) := by decide +kernel
theorem dX3_tellWash_6 : decode cX3_tellWash 6 = .ok (.isub, 1) := by decide +kernel
theorem dX3_tellWash_7 : decode cX3_tellWash 7 = .ok (.invokevirtual 72, 3) := by decide +kernel
theorem dX3_tellWash_10 : decode cX3_tellWash 10 = .ok (.ifCond .ne 5, 3) := by decide +kernel
theorem dX3_tellWash_13 : decode cX3_tellWash 13 = .ok (.iconst 0, 1) := by decide +kernel
theorem dX3_tellWash_14 : decode cX3_tellWash 14 = .ok (.ireturn, 1) := by decide +kernel
theorem dX3_tellWash_15 : decode cX3_tellWash 15 = .ok (.aload_n 1, 1) := by decide +kernel
theorem dX3_tellWash_16 : decode cX3_tellWash 16 = .ok (.aload_n 0, 1) := by decide +kernel
theorem dX3_tellWash_17 : decode cX3_tellWash 17 = .ok (.getfield 22, 3) := by decide +kernel
theorem dX3_tellWash_20 : decode cX3_tellWash 20 = .ok (.invokevirtual 89, 3) := by decide +kernel
theorem dX3_tellWash_23 : decode cX3_tellWash 23 = .ok (.pop, 1) := by decide +kernel
theorem dX3_tellWash_24 : decode cX3_tellWash 24 = .ok (.aload_n 0, 1) := by decide +kernel
theorem dX3_tellWash_25 : decode cX3_tellWash 25 = .ok (.invokevirtual 34, 3) := by decide +kernel
theorem dX3_tellWash_28 : decode cX3_tellWash 28 = .ok (.iconst 1, 1) := by decide +kernel
theorem dX3_tellWash_29 : decode cX3_tellWash 29 = .ok (.ireturn, 1) := by decide +kernel
theorem dX3_tellMemories_0 : decode cX3_tellMemories 0 = .ok (.aload_n 0, 1) := by decide +kernel
theorem dX3_tellMemories_1 : decode cX3_tellMemories 1 = .ok (.iconst 0, 1) := by decide +kernel
theorem dX3_tellMemories_2 : decode cX3_tellMemories 2 = .ok (.putfield 31, 3) := by decide +kernel
theorem dX3_tellMemories_5 : decode cX3_tellMemories 5 = .ok (.aload_n 0, 1) := by decide +kernel
theorem dX3_tellMemories_6 : decode cX3_tellMemories 6 = .ok (.bipush 9, 2) := by decide +kernel
theorem dX3_tellMemories_8 : decode cX3_tellMemories 8 = .ok (.invokevirtual 72, 3) := by decide +kernel
theorem dX3_tellMemories_11 : decode cX3_tellMemories 11 = .ok (.ifCond .ne 5, 3) := by decide +kernel
theorem dX3_tellMemories_14 : decode cX3_tellMemories 14 = .ok (.iconst 0, 1) := by decide +kernel
theorem dX3_tellMemories_15 : decode cX3_tellMemories 15 = .ok (.ireturn, 1) := by decide +kernel
theorem dX3_tellMemories_16 : decode cX3_tellMemories 16 = .ok (.iconst 0, 1) := by decide +kernel
theorem dX3_tellMemories_17 : decode cX3_tellMemories 17 = .ok (.istore_n 1, 1) := by decide +kernel
theorem dX3_tellMemories_18 : decode cX3_tellMemories 18 = .ok (.iload_n 1, 1) := by decide +kernel
theorem dX3_tellMemories_19 : decode cX3_tellMemories 19 = .ok (.iconst 4, 1) := by decide +kernel
theorem dX3_tellMemories_20 : decode cX3_tellMemories 20 = .ok (.if_icmp .ge 37, 3) := by decide +kernel
theorem dX3_tellMemories_23 : decode cX3_tellMemories 23 = .ok (.aload_n 0, 1) := by decide +kernel
theorem dX3_tellMemories_24 : decode cX3_tellMemories 24 = .ok (.bipush 9, 2) := by decide +kernel
theorem dX3_tellMemories_26 : decode cX3_tellMemories 26 = .ok (.invokevirtual 72, 3) := by decide +kernel
theorem dX3_tellMemories_29 : decode cX3_tellMemories 29 = .ok (.ifCond .eq 28, 3) := by decide +kernel
theorem dX3_tellMemories_32 : decode cX3_tellMemories 32 = .ok (.aload_n 0, 1) := by decide +kernel
theorem dX3_tellMemories_33 : decode cX3_tellMemories 33 = .ok (.dup, 1) := by decide +kernel
theorem dX3_tellMemories_34 : decode cX3_tellMemories 34 = .ok (.getfield 31, 3) := by decide +kernel
theorem dX3_tellMemories_37 : decode cX3_tellMemories 37 = .ok (.iconst 1, 1) := by decide +kernel
theorem dX3_tellMemories_38 : decode cX3_tellMemories 38 = .ok (.aload_n 0, 1) := by decide +kernel
theorem dX3_tellMemories_39 : decode cX3_tellMemories 39 = .ok (.getfield 22, 3) := by decide +kernel
theorem dX3_tellMemories_42 : decode cX3_tellMemories 42 = .ok (.ishl, 1) := by decide +kernel
theorem dX3_tellMemories_43 : decode cX3_tellMemories 43 = .ok (.ior, 1) := by decide +kernel
theorem dX3_tellMemories_44 : decode cX3_tellMemories 44 = .ok (.putfield 31, 3) := by decide +kernel
theorem dX3_tellMemories_47 : decode cX3_tellMemories 47 = .ok (.aload_n 0, 1) := by decide +kernel
theorem dX3_tellMemories_48 : decode cX3_tellMemories 48 = .ok (.invokevirtual 34, 3) := by decide +kernel
theorem dX3_tellMemories_51 : decode cX3_tellMemories 51 = .ok (.iinc 1 1, 3) := by decide +kernel
theorem dX3_tellMemories_54 : decode cX3_tellMemories 54 = .ok (.goto (-36), 3) := by decide +kernel
theorem dX3_tellMemories_57 : decode cX3_tellMemories 57 = .ok (.aload_n 0, 1) := by decide +kernel
theorem dX3_tellMemories_58 : decode cX3_tellMemories 58 = .ok (.getfield 19, 3) := by decide +kernel
theorem dX3_tellMemories_61 : decode cX3_tellMemories 61 = .ok (.iconst 2, 1) := by decide +kernel
theorem dX3_tellMemories_62 : decode cX3_tellMemories 62 = .ok (.if_icmp .eq 7, 3) := by decide +kernel
theorem dX3_tellMemories_65 : decode cX3_tellMemories 65 = .ok (.iconst 1, 1) := by decide +kernel
theorem dX3_tellMemories_66 : decode cX3_tellMemories 66 = .ok (.goto 4, 3) := by decide +kernel
theorem dX3_tellMemories_69 : decode cX3_tellMemories 69 = .ok (.iconst 0, 1) := by decide +kernel
theorem dX3_tellMemories_70 : decode cX3_tellMemories 70 = .ok (.ireturn, 1) := by decide +kernel
theorem dX3_isWord_0 : decode cX3_isWord 0 = .ok (.aload_n 0, 1) := by decide +kernel
theorem dX3_isWord_1 : decode cX3_isWord 1 = .ok (.getfield 19, 3) := by decide +kernel
theorem dX3_isWord_4 : decode cX3_isWord 4 = .ok (.iconst 1, 1) := by decide +kernel
theorem dX3_isWord_5 : decode cX3_isWord 5 = .ok (.if_icmp .ne 15, 3) := by decide +kernel
theorem dX3_isWord_8 : decode cX3_isWord 8 = .ok (.aload_n 0, 1) := by decide +kernel
theorem dX3_isWord_9 : decode cX3_isWord 9 = .ok (.getfield 22, 3) := by decide +kernel
theorem dX3_isWord_12 : decode cX3_isWord 12 = .ok (.iload_n 1, 1) := by decide +kernel
theorem dX3_isWord_13 : decode cX3_isWord 13 = .ok (.if_icmp .ne 7, 3) := by decide +kernel
theorem dX3_isWord_16 : decode cX3_isWord 16 = .ok (.iconst 1, 1) := by decide +kernel
theorem dX3_isWord_17 : decode cX3_isWord 17 = .ok (.goto 4, 3) := by decide +kernel
theorem dX3_isWord_20 : decode cX3_isWord 20 = .ok (.iconst 0, 1) := by decide +kernel
theorem dX3_isWord_21 : decode cX3_isWord 21 = .ok (.ireturn, 1) := by decide +kernel
theorem dX3_isNumberTo_0 : decode cX3_isNumberTo 0 = .ok (.aload_n 0, 1) := by decide +kernel
theorem dX3_isNumberTo_1 : decode cX3_isNumberTo 1 = .ok (.getfield 19, 3) := by decide +kernel
theorem dX3_isNumberTo_4 : decode cX3_isNumberTo 4 = .ok (.iconst 2, 1) := by decide +kernel
theorem dX3_isNumberTo_5 : decode cX3_isNumberTo 5 = .ok (.if_icmp .ne 15, 3) := by decide +kernel
theorem dX3_isNumberTo_8 : decode cX3_isNumberTo 8 = .ok (.aload_n 0, 1) := by decide +kernel
theorem dX3_isNumberTo_9 : decode cX3_isNumberTo 9 = .ok (.getfield 22, 3) := by decide +kernel
theorem dX3_isNumberTo_12 : decode cX3_isNumberTo 12 = .ok (.iload_n 1, 1) := by decide +kernel
theorem dX3_isNumberTo_13 : decode cX3_isNumberTo 13 = .ok (.if_icmp .gt 7, 3) := by decide +kernel
theorem dX3_isNumberTo_16 : decode cX3_isNumberTo 16 = .ok (.iconst 1, 1) := by decide +kernel
theorem dX3_isNumberTo_17 : decode cX3_isNumberTo 17 = .ok (.goto 4, 3) := by decide +kernel
theorem dX3_isNumberTo_20 : decode cX3_isNumberTo 20 = .ok (.iconst 0, 1) := by decide +kernel
theorem dX3_isNumberTo_21 : decode cX3_isNumberTo 21 = .ok (.ireturn, 1) := by decide +kernel
theorem dX3_step_0 : decode cX3_step 0 = .ok (.aload_n 0, 1) := by decide +kernel
theorem dX3_step_1 : decode cX3_step 1 = .ok (.aload_n 0, 1) := by decide +kernel
theorem dX3_step_2 : decode cX3_step 2 = .ok (.getfield 28, 3) := by decide +kernel
theorem dX3_step_5 : decode cX3_step 5 = .ok (.putfield 25, 3) := by decide +kernel
theorem dX3_step_8 : decode cX3_step 8 = .ok (.aload_n 0, 1) := by decide +kernel
theorem dX3_step_9 : decode cX3_step 9 = .ok (.getfield 25, 3) := by decide +kernel
theorem dX3_step_12 : decode cX3_step 12 = .ok (.aload_n 0, 1) := by decide +kernel
theorem dX3_step_13 : decode cX3_step 13 = .ok (.getfield 15, 3) := by decide +kernel
theorem dX3_step_16 : decode cX3_step 16 = .ok (.if_icmp .ge 30, 3) := by decide +kernel
theorem dX3_step_19 : decode cX3_step 19 = .ok (.aload_n 0, 1) := by decide +kernel
theorem dX3_step_20 : decode cX3_step 20 = .ok (.getfield 9, 3) := by decide +kernel
theorem dX3_step_23 : decode cX3_step 23 = .ok (.aload_n 0, 1) := by decide +kernel
theorem dX3_step_24 : decode cX3_step 24 = .ok (.getfield 25, 3) := by decide +kernel
theorem dX3_step_27 : decode cX3_step 27 = .ok (.iaload, 1) := by decide +kernel
theorem dX3_step_28 : decode cX3_step 28 = .ok (.bipush 32, 2) := by decide +kernel
theorem dX3_step_30 : decode cX3_step 30 = .ok (.if_icmp .ne 16, 3) := by decide +kernel
theorem dX3_step_33 : decode cX3_step 33 = .ok (.aload_n 0, 1) := by decide +kernel
theorem dX3_step_34 : decode cX3_step 34 = .ok (.dup, 1) := by decide +kernel
theorem dX3_step_35 : decode cX3_step 35 = .ok (.getfield 25, 3) := by decide +kernel
theorem dX3_step_38 : decode cX3_step 38 = .ok (.iconst 1, 1) := by decide +kernel
theorem dX3_step_39 : decode cX3_step 39 = .ok (.iadd, 1) := by decide +kernel
theorem dX3_step_40 : decode cX3_step 40 = .ok (.putfield 25, 3) := by decide +kernel
theorem dX3_step_43 : decode cX3_step 43 = .ok (.goto (-35), 3) := by decide +kernel
theorem dX3_step_46 : decode cX3_step 46 = .ok (.aload_n 0, 1) := by decide +kernel
theorem dX3_step_47 : decode cX3_step 47 = .ok (.aload_n 0, 1) := by decide +kernel
theorem dX3_step_48 : decode cX3_step 48 = .ok (.getfield 25, 3) := by decide +kernel
theorem dX3_step_51 : decode cX3_step 51 = .ok (.putfield 28, 3) := by decide +kernel
theorem dX3_step_54 : decode cX3_step 54 = .ok (.aload_n 0, 1) := by decide +kernel
theorem dX3_step_55 : decode cX3_step 55 = .ok (.getfield 25, 3) := by decide +kernel
theorem dX3_step_58 : decode cX3_step 58 = .ok (.aload_n 0, 1) := by decide +kernel
theorem dX3_step_59 : decode cX3_step 59 = .ok (.getfield 15, 3) := by decide +kernel
theorem dX3_step_62 : decode cX3_step 62 = .ok (.if_icmp .lt 11, 3) := by decide +kernel
theorem dX3_step_65 : decode cX3_step 65 = .ok (.aload_n 0, 1) := by decide +kernel
theorem dX3_step_66 : decode cX3_step 66 = .ok (.iconst 0, 1) := by decide +kernel
theorem dX3_step_67 : decode cX3_step 67 = .ok (.putfield 19, 3) := by decide +kernel
theorem dX3_step_70 : decode cX3_step 70 = .ok (.goto 80, 3) := by decide +kernel
theorem dX3_step_73 : decode cX3_step 73 = .ok (.aload_n 0, 1) := by decide +kernel
theorem dX3_step_74 : decode cX3_step 74 = .ok (.getfield 9, 3) := by decide +kernel
theorem dX3_step_77 : decode cX3_step 77 = .ok (.aload_n 0, 1) := by decide +kernel
theorem dX3_step_78 : decode cX3_step 78 = .ok (.getfield 25, 3) := by decide +kernel
theorem dX3_step_81 : decode cX3_step 81 = .ok (.iaload, 1) := by decide +kernel
theorem dX3_step_82 : decode cX3_step 82 = .ok (.invokestatic 92, 3) := by decide +kernel
theorem dX3_step_85 : decode cX3_step 85 = .ok (.ifCond .eq 10, 3) := by decide +kernel
theorem dX3_step_88 : decode cX3_step 88 = .ok (.aload_n 0, 1) := by decide +kernel
theorem dX3_step_89 : decode cX3_step 89 = .ok (.invokevirtual 95, 3) := by decide +kernel
theorem dX3_step_92 : decode cX3_step 92 = .ok (.goto 58, 3) := by decide +kernel
theorem dX3_step_95 : decode cX3_step 95 = .ok (.aload_n 0, 1) := by decide +kernel
theorem dX3_step_96 : decode cX3_step 96 = .ok (.getfield 9, 3) := by decide +kernel
theorem dX3_step_99 : decode cX3_step 99 = .ok (.aload_n 0, 1) := by decide +kernel
theorem dX3_step_100 : decode cX3_step 100 = .ok (.getfield 25, 3) := by decide +kernel
theorem dX3_step_103 : decode cX3_step 103 = .ok (.iaload, 1) := by decide +kernel
theorem dX3_step_104 : decode cX3_step 104 = .ok (.invokestatic 98, 3) := by decide +kernel
theorem dX3_step_107 : decode cX3_step 107 = .ok (.ifCond .eq 10, 3) := by decide +kernel
theorem dX3_step_110 : decode cX3_step 110 = .ok (.aload_n 0, 1) := by decide +kernel
theorem dX3_step_111 : decode cX3_step 111 = .ok (.invokevirtual 101, 3) := by decide +kernel
theorem dX3_step_114 : decode cX3_step 114 = .ok (.goto 36, 3) := by decide +kernel
theorem dX3_step_117 : decode cX3_step 117 = .ok (.aload_n 0, 1) := by decide +kernel
theorem dX3_step_118 : decode cX3_step 118 = .ok (.aload_n 0, 1) := by decide +kernel
theorem dX3_step_119 : decode cX3_step 119 = .ok (.getfield 9, 3) := by decide +kernel
theorem dX3_step_122 : decode cX3_step 122 = .ok (.aload_n 0, 1) := by decide +kernel
theorem dX3_step_123 : decode cX3_step 123 = .ok (.getfield 25, 3) := by decide +kernel
theorem dX3_step_126 : decode cX3_step 126 = .ok (.iaload, 1) := by decide +kernel
theorem dX3_step_127 : decode cX3_step 127 = .ok (.bipush 59, 2) := by decide +kernel
theorem dX3_step_129 : decode cX3_step 129 = .ok (.if_icmp .ne 7, 3) := by decide +kernel
theorem dX3_step_132 : decode cX3_step 132 = .ok (.iconst 3, 1) := by decide +kernel
theorem dX3_step_133 : decode cX3_step 133 = .ok (.goto 4, 3) := by decide +kernel
theorem dX3_step_136 : decode cX3_step 136 = .ok (.iconst 4, 1) := by decide +kernel
theorem dX3_step_137 : decode cX3_step 137 = .ok (.putfield 19, 3) := by decide +kernel
theorem dX3_step_140 : decode cX3_step 140 = .ok (.aload_n 0, 1) := by decide +kernel
theorem dX3_step_141 : decode cX3_step 141 = .ok (.aload_n 0, 1) := by decide +kernel
theorem dX3_step_142 : decode cX3_step 142 = .ok (.getfield 25, 3) := by decide +kernel
theorem dX3_step_145 : decode cX3_step 145 = .ok (.iconst 1, 1) := by decide +kernel
theorem dX3_step_146 : decode cX3_step 146 = .ok (.iadd, 1) := by decide +kernel
theorem dX3_step_147 : decode cX3_step 147 = .ok (.putfield 28, 3) := by decide +kernel
theorem dX3_step_150 : decode cX3_step 150 = .ok (.return_, 1) := by decide +kernel
theorem dX3_stepOverWord_0 : decode cX3_stepOverWord 0 = .ok (.aload_n 0, 1) := by decide +kernel
theorem dX3_stepOverWord_1 : decode cX3_stepOverWord 1 = .ok (.getfield 28, 3) := by decide +kernel
theorem dX3_stepOverWord_4 : decode cX3_stepOverWord 4 = .ok (.aload_n 0, 1) := by decide +kernel
theorem dX3_stepOverWord_5 : decode cX3_stepOverWord 5 = .ok (.getfield 15, 3) := by decide +kernel
theorem dX3_stepOverWord_8 : decode cX3_stepOverWord 8 = .ok (.if_icmp .ge 31, 3) := by decide +kernel
theorem dX3_stepOverWord_11 : decode cX3_stepOverWord 11 = .ok (.aload_n 0, 1) := by decide +kernel
theorem dX3_stepOverWord_12 : decode cX3_stepOverWord 12 = .ok (.getfield 9, 3) := by decide +kernel
theorem dX3_stepOverWord_15 : decode cX3_stepOverWord 15 = .ok (.aload_n 0, 1) := by decide +kernel
theorem dX3_stepOverWord_16 : decode cX3_stepOverWord 16 = .ok (.getfield 28, 3) := by decide +kernel
theorem dX3_stepOverWord_19 : decode cX3_stepOverWord 19 = .ok (.iaload, 1) := by decide +kernel
theorem dX3_stepOverWord_20 : decode cX3_stepOverWord 20 = .ok (.invokestatic 92, 3) := by decide +kernel
theorem dX3_stepOverWord_23 : decode cX3_stepOverWord 23 = .ok (.ifCond .eq 16, 3) := by decide +kernel
theorem dX3_stepOverWord_26 : decode cX3_stepOverWord 26 = .ok (.aload_n 0, 1) := by decide +kernel
theorem dX3_stepOverWord_27 : decode cX3_stepOverWord 27 = .ok (.dup, 1) := by decide +kernel
theorem dX3_stepOverWord_28 : decode cX3_stepOverWord 28 = .ok (.getfield 28, 3) := by decide +kernel
theorem dX3_stepOverWord_31 : decode cX3_stepOverWord 31 = .ok (.iconst 1, 1) := by decide +kernel
theorem dX3_stepOverWord_32 : decode cX3_stepOverWord 32 = .ok (.iadd, 1) := by decide +kernel
theorem dX3_stepOverWord_33 : decode cX3_stepOverWord 33 = .ok (.putfield 28, 3) := by decide +kernel
theorem dX3_stepOverWord_36 : decode cX3_stepOverWord 36 = .ok (.goto (-36), 3) := by decide +kernel
theorem dX3_stepOverWord_39 : decode cX3_stepOverWord 39 = .ok (.aload_n 0, 1) := by decide +kernel
theorem dX3_stepOverWord_40 : decode cX3_stepOverWord 40 = .ok (.iconst 1, 1) := by decide +kernel
theorem dX3_stepOverWord_41 : decode cX3_stepOverWord 41 = .ok (.putfield 19, 3) := by decide +kernel
theorem dX3_stepOverWord_44 : decode cX3_stepOverWord 44 = .ok (.aload_n 0, 1) := by decide +kernel
theorem dX3_stepOverWord_45 : decode cX3_stepOverWord 45 = .ok (.iconst 0, 1) := by decide +kernel
theorem dX3_stepOverWord_46 : decode cX3_stepOverWord 46 = .ok (.putfield 22, 3) := by decide +kernel
theorem dX3_stepOverWord_49 : decode cX3_stepOverWord 49 = .ok (.aload_n 0, 1) := by decide +kernel
theorem dX3_stepOverWord_50 : decode cX3_stepOverWord 50 = .ok (.getfield 22, 3) := by decide +kernel
theorem dX3_stepOverWord_53 : decode cX3_stepOverWord 53 = .ok (.bipush 13, 2) := by decide +kernel
theorem dX3_stepOverWord_55 : decode cX3_stepOverWord 55 = .ok (.if_icmp .ge 94, 3) := by decide +kernel
theorem dX3_stepOverWord_58 : decode cX3_stepOverWord 58 = .ok (.aload_n 0, 1) := by decide +kernel
theorem dX3_stepOverWord_59 : decode cX3_stepOverWord 59 = .ok (.getfield 22, 3) := by decide +kernel
theorem dX3_stepOverWord_62 : decode cX3_stepOverWord 62 = .ok (.invokestatic 104, 3) := by decide +kernel
theorem dX3_stepOverWord_65 : decode cX3_stepOverWord 65 = .ok (.astore_n 1, 1) := by decide +kernel
theorem dX3_stepOverWord_66 : decode cX3_stepOverWord 66 = .ok (.iconst 0, 1) := by decide +kernel
theorem dX3_stepOverWord_67 : decode cX3_stepOverWord 67 = .ok (.istore_n 2, 1) := by decide +kernel
theorem dX3_stepOverWord_68 : decode cX3_stepOverWord 68 = .ok (.iload_n 2, 1) := by decide +kernel
theorem dX3_stepOverWord_69 : decode cX3_stepOverWord 69 = .ok (.aload_n 1, 1) := by decide +kernel
theorem dX3_stepOverWord_70 : decode cX3_stepOverWord 70 = .ok (.invokevirtual 108, 3) := by decide +kernel
theorem dX3_stepOverWord_73 : decode cX3_stepOverWord 73 = .ok (.if_icmp .ge 41, 3) := by decide +kernel
theorem dX3_stepOverWord_76 : decode cX3_stepOverWord 76 = .ok (.aload_n 0, 1) := by decide +kernel
theorem dX3_stepOverWord_77 : decode cX3_stepOverWord 77 = .ok (.getfield 25, 3) := by decide +kernel
theorem dX3_stepOverWord_80 : decode cX3_stepOverWord 80 = .ok (.iload_n 2, 1) := by decide +kernel
theorem dX3_stepOverWord_81 : decode cX3_stepOverWord 81 = .ok (.iadd, 1) := by decide +kernel
theorem dX3_stepOverWord_82 : decode cX3_stepOverWord 82 = .ok (.aload_n 0, 1) := by decide +kernel
theorem dX3_stepOverWord_83 : decode cX3_stepOverWord 83 = .ok (.getfield 28, 3) := by decide +kernel
theorem dX3_stepOverWord_86 : decode cX3_stepOverWord 86 = .ok (.if_icmp .ge 28, 3) := by decide +kernel
theorem dX3_stepOverWord_89 : decode cX3_stepOverWord 89 = .ok (.aload_n 0, 1) := by decide +kernel
theorem dX3_stepOverWord_90 : decode cX3_stepOverWord 90 = .ok (.getfield 9, 3) := by decide +kernel
theorem dX3_stepOverWord_93 : decode cX3_stepOverWord 93 = .ok (.aload_n 0, 1) := by decide +kernel
theorem dX3_stepOverWord_94 : decode cX3_stepOverWord 94 = .ok (.getfield 25, 3) := by decide +kernel
theorem dX3_stepOverWord_97 : decode cX3_stepOverWord 97 = .ok (.iload_n 2, 1) := by decide +kernel
theorem dX3_stepOverWord_98 : decode cX3_stepOverWord 98 = .ok (.iadd, 1) := by decide +kernel
theorem dX3_stepOverWord_99 : decode cX3_stepOverWord 99 = .ok (.iaload, 1) := by decide +kernel
theorem dX3_stepOverWord_100 : decode cX3_stepOverWord 100 = .ok (.aload_n 1, 1) := by decide +kernel
theorem dX3_stepOverWord_101 : decode cX3_stepOverWord 101 = .ok (.iload_n 2, 1) := by decide +kernel
theorem dX3_stepOverWord_102 : decode cX3_stepOverWord 102 = .ok (.invokevirtual 113, 3) := by decide +kernel
theorem dX3_stepOverWord_105 : decode cX3_stepOverWord 105 = .ok (.if_icmp .ne 9, 3) := by decide +kernel
theorem dX3_stepOverWord_108 : decode cX3_stepOverWord 108 = .ok (.iinc 2 1, 3) := by decide +kernel
theorem dX3_stepOverWord_111 : decode cX3_stepOverWord 111 = .ok (.goto (-43), 3) := by decide +kernel
theorem dX3_stepOverWord_114 : decode cX3_stepOverWord 114 = .ok (.iload_n 2, 1) := by decide +kernel
theorem dX3_stepOverWord_115 : decode cX3_stepOverWord 115 = .ok (.aload_n 1, 1) := by decide +kernel
theorem dX3_stepOverWord_116 : decode cX3_stepOverWord 116 = .ok (.invokevirtual 108, 3) := by decide +kernel
theorem dX3_stepOverWord_119 : decode cX3_stepOverWord 119 = .ok (.if_icmp .ne 17, 3) := by decide +kernel
theorem dX3_stepOverWord_122 : decode cX3_stepOverWord 122 = .ok (.aload_n 0, 1) := by decide +kernel
theorem dX3_stepOverWord_123 : decode cX3_stepOverWord 123 = .ok (.getfield 25, 3) := by decide +kernel
theorem dX3_stepOverWord_126 : decode cX3_stepOverWord 126 = .ok (.iload_n 2, 1) := by decide +kernel
theorem dX3_stepOverWord_127 : decode cX3_stepOverWord 127 = .ok (.iadd, 1) := by decide +kernel
theorem dX3_stepOverWord_128 : decode cX3_stepOverWord 128 = .ok (.aload_n 0, 1) := by decide +kernel
theorem dX3_stepOverWord_129 : decode cX3_stepOverWord 129 = .ok (.getfield 28, 3) := by decide +kernel
theorem dX3_stepOverWord_132 : decode cX3_stepOverWord 132 = .ok (.if_icmp .ne 4, 3) := by decide +kernel
theorem dX3_stepOverWord_135 : decode cX3_stepOverWord 135 = .ok (.return_, 1) := by decide +kernel
theorem dX3_stepOverWord_136 : decode cX3_stepOverWord 136 = .ok (.aload_n 0, 1) := by decide +kernel
theorem dX3_stepOverWord_137 : decode cX3_stepOverWord 137 = .ok (.dup, 1) := by decide +kernel
theorem dX3_stepOverWord_138 : decode cX3_stepOverWord 138 = .ok (.getfield 22, 3) := by decide +kernel
theorem dX3_stepOverWord_141 : decode cX3_stepOverWord 141 = .ok (.iconst 1, 1) := by decide +kernel
theorem dX3_stepOverWord_142 : decode cX3_stepOverWord 142 = .ok (.iadd, 1) := by decide +kernel
theorem dX3_stepOverWord_143 : decode cX3_stepOverWord 143 = .ok (.putfield 22, 3) := by decide +kernel
theorem dX3_stepOverWord_146 : decode cX3_stepOverWord 146 = .ok (.goto (-97), 3) := by decide +kernel
theorem dX3_stepOverWord_149 : decode cX3_stepOverWord 149 = .ok (.return_, 1) := by decide +kernel
theorem dX3_stepOverNumber_0 : decode cX3_stepOverNumber 0 = .ok (.aload_n 0, 1) := by decide +kernel
theorem dX3_stepOverNumber_1 : decode cX3_stepOverNumber 1 = .ok (.iconst 2, 1) := by decide +kernel
theorem dX3_stepOverNumber_2 : decode cX3_stepOverNumber 2 = .ok (.putfield 19, 3) := by decide +kernel
theorem dX3_stepOverNumber_5 : decode cX3_stepOverNumber 5 = .ok (.aload_n 0, 1) := by decide +kernel
theorem dX3_stepOverNumber_6 : decode cX3_stepOverNumber 6 = .ok (.iconst 0, 1) := by decide +kernel
theorem dX3_stepOverNumber_7 : decode cX3_stepOverNumber 7 = .ok (.putfield 22, 3) := by decide +kernel
theorem dX3_stepOverNumber_10 : decode cX3_stepOverNumber 10 = .ok (.aload_n 0, 1) := by decide +kernel
theorem dX3_stepOverNumber_11 : decode cX3_stepOverNumber 11 = .ok (.getfield 28, 3) := by decide +kernel
theorem dX3_stepOverNumber_14 : decode cX3_stepOverNumber 14 = .ok (.aload_n 0, 1) := by decide +kernel
theorem dX3_stepOverNumber_15 : decode cX3_stepOverNumber 15 = .ok (.getfield 15, 3) := by decide +kernel
theorem dX3_stepOverNumber_18 : decode cX3_stepOverNumber 18 = .ok (.if_icmp .ge 61, 3) := by decide +kernel
theorem dX3_stepOverNumber_21 : decode cX3_stepOverNumber 21 = .ok (.aload_n 0, 1) := by decide +kernel
theorem dX3_stepOverNumber_22 : decode cX3_stepOverNumber 22 = .ok (.getfield 9, 3) := by decide +kernel
theorem dX3_stepOverNumber_25 : decode cX3_stepOverNumber 25 = .ok (.aload_n 0, 1) := by decide +kernel
theorem dX3_stepOverNumber_26 : decode cX3_stepOverNumber 26 = .ok (.getfield 28, 3) := by decide +kernel
theorem dX3_stepOverNumber_29 : decode cX3_stepOverNumber 29 = .ok (.iaload, 1) := by decide +kernel
theorem dX3_stepOverNumber_30 : decode cX3_stepOverNumber 30 = .ok (.invokestatic 98, 3) := by decide +kernel
theorem dX3_stepOverNumber_33 : decode cX3_stepOverNumber 33 = .ok (.ifCond .eq 46, 3) := by decide +kernel
theorem dX3_stepOverNumber_36 : decode cX3_stepOverNumber 36 = .ok (.aload_n 0, 1) := by decide +kernel
theorem dX3_stepOverNumber_37 : decode cX3_stepOverNumber 37 = .ok (.sipush 1000, 3) := by decide +kernel
theorem dX3_stepOverNumber_40 : decode cX3_stepOverNumber 40 = .ok (.aload_n 0, 1) := by decide +kernel
theorem dX3_stepOverNumber_41 : decode cX3_stepOverNumber 41 = .ok (.getfield 22, 3) := by decide +kernel
theorem dX3_stepOverNumber_44 : decode cX3_stepOverNumber 44 = .ok (.bipush 10, 2) := by decide +kernel
theorem dX3_stepOverNumber_46 : decode cX3_stepOverNumber 46 = .ok (.imul, 1) := by decide +kernel
theorem dX3_stepOverNumber_47 : decode cX3_stepOverNumber 47 = .ok (.aload_n 0, 1) := by decide +kernel
theorem dX3_stepOverNumber_48 : decode cX3_stepOverNumber 48 = .ok (.getfield 9, 3) := by decide +kernel
theorem dX3_stepOverNumber_51 : decode cX3_stepOverNumber 51 = .ok (.aload_n 0, 1) := by decide +kernel
theorem dX3_stepOverNumber_52 : decode cX3_stepOverNumber 52 = .ok (.getfield 28, 3) := by decide +kernel
theorem dX3_stepOverNumber_55 : decode cX3_stepOverNumber 55 = .ok (.iaload, 1) := by decide +kernel
theorem dX3_stepOverNumber_56 : decode cX3_stepOverNumber 56 = .ok (.iadd, 1) := by decide +kernel
theorem dX3_stepOverNumber_57 : decode cX3_stepOverNumber 57 = .ok (.bipush 48, 2) := by decide +kernel
theorem dX3_stepOverNumber_59 : decode cX3_stepOverNumber 59 = .ok (.isub, 1) := by decide +kernel
theorem dX3_stepOverNumber_60 : decode cX3_stepOverNumber 60 = .ok (.invokestatic 117, 3) := by decide +kernel
theorem dX3_stepOverNumber_63 : decode cX3_stepOverNumber 63 = .ok (.putfield 22, 3) := by decide +kernel
theorem dX3_stepOverNumber_66 : decode cX3_stepOverNumber 66 = .ok (.aload_n 0, 1) := by decide +kernel
theorem dX3_stepOverNumber_67 : decode cX3_stepOverNumber 67 = .ok (.dup, 1) := by decide +kernel
theorem dX3_stepOverNumber_68 : decode cX3_stepOverNumber 68 = .ok (.getfield 28, 3) := by decide +kernel
theorem dX3_stepOverNumber_71 : decode cX3_stepOverNumber 71 = .ok (.iconst 1, 1) := by decide +kernel
theorem dX3_stepOverNumber_72 : decode cX3_stepOverNumber 72 = .ok (.iadd, 1) := by decide +kernel
theorem dX3_stepOverNumber_73 : decode cX3_stepOverNumber 73 = .ok (.putfield 28, 3) := by decide +kernel
theorem dX3_stepOverNumber_76 : decode cX3_stepOverNumber 76 = .ok (.goto (-66), 3) := by decide +kernel
theorem dX3_stepOverNumber_79 : decode cX3_stepOverNumber 79 = .ok (.return_, 1) := by decide +kernel
theorem dX3_isLetter_0 : decode cX3_isLetter 0 = .ok (.iload_n 0, 1) := by decide +kernel
theorem dX3_isLetter_1 : decode cX3_isLetter 1 = .ok (.bipush 97, 2) := by decide +kernel
theorem dX3_isLetter_3 : decode cX3_isLetter 3 = .ok (.if_icmp .lt 13, 3) := by decide +kernel
theorem dX3_isLetter_6 : decode cX3_isLetter 6 = .ok (.iload_n 0, 1) := by decide +kernel
theorem dX3_isLetter_7 : decode cX3_isLetter 7 = .ok (.bipush 122, 2) := by decide +kernel
theorem dX3_isLetter_9 : decode cX3_isLetter 9 = .ok (.if_icmp .gt 7, 3) := by decide +kernel
theorem dX3_isLetter_12 : decode cX3_isLetter 12 = .ok (.iconst 1, 1) := by decide +kernel
theorem dX3_isLetter_13 : decode cX3_isLetter 13 = .ok (.goto 4, 3) := by decide +kernel
theorem dX3_isLetter_16 : decode cX3_isLetter 16 = .ok (.iconst 0, 1) := by decide +kernel
theorem dX3_isLetter_17 : decode cX3_isLetter 17 = .ok (.ireturn, 1) := by decide +kernel
theorem dX3_isDigit_0 : decode cX3_isDigit 0 = .ok (.iload_n 0, 1) := by decide +kernel
theorem dX3_isDigit_1 : decode cX3_isDigit 1 = .ok (.bipush 48, 2) := by decide +kernel
theorem dX3_isDigit_3 : decode cX3_isDigit 3 = .ok (.if_icmp .lt 13, 3) := by decide +kernel
theorem dX3_isDigit_6 : decode cX3_isDigit 6 = .ok (.iload_n 0, 1) := by decide +kernel
theorem dX3_isDigit_7 : decode cX3_isDigit 7 = .ok (.bipush 57, 2) := by decide +kernel
theorem dX3_isDigit_9 : decode cX3_isDigit 9 = .ok (.if_icmp .gt 7, 3) := by decide +kernel
theorem dX3_isDigit_12 : decode cX3_isDigit 12 = .ok (.iconst 1, 1) := by decide +kernel
theorem dX3_isDigit_13 : decode cX3_isDigit 13 = .ok (.goto 4, 3) := by decide +kernel
theorem dX3_isDigit_16 : decode cX3_isDigit 16 = .ok (.iconst 0, 1) := by decide +kernel
theorem dX3_isDigit_17 : decode cX3_isDigit 17 = .ok (.ireturn, 1) := by decide +kernel
theorem dX3_nameOf_0 : decode cX3_nameOf 0 = .ok (.iload_n 0, 1) := by decide +kernel
theorem dX3_nameOf_1 : decode cX3_nameOf 1 = .ok (.tableswitch 106 0 12 #[67, 70, 73, 76, 79, 82, 85, 88, 91, 94, 97, 100, 103], 67) := by decide +kernel
theorem dX3_nameOf_68 : decode cX3_nameOf 68 = .ok (.ldc 123, 2) := by decide +kernel
theorem dX3_nameOf_70 : decode cX3_nameOf 70 = .ok (.areturn, 1) := by decide +kernel
theorem dX3_nameOf_71 : decode cX3_nameOf 71 = .ok (.ldc 125, 2) := by decide +kernel
theorem dX3_nameOf_73 : decode cX3_nameOf 73 = .ok (.areturn, 1) := by decide +kernel
theorem dX3_nameOf_74 : decode cX3_nameOf 74 = .ok (.ldc 127, 2) := by decide +kernel
theorem dX3_nameOf_76 : decode cX3_nameOf 76 = .ok (.areturn, 1) := by decide +kernel
theorem dX3_nameOf_77 : decode cX3_nameOf 77 = .ok (.ldc 129, 2) := by decide +kernel
theorem dX3_nameOf_79 : decode cX3_nameOf 79 = .ok (.areturn, 1) := by decide +kernel
theorem dX3_nameOf_80 : decode cX3_nameOf 80 = .ok (.ldc 131, 2) := by decide +kernel
theorem dX3_nameOf_82 : decode cX3_nameOf 82 = .ok (.areturn, 1) := by decide +kernel
theorem dX3_nameOf_83 : decode cX3_nameOf 83 = .ok (.ldc 133, 2) := by decide +kernel
theorem dX3_nameOf_85 : decode cX3_nameOf 85 = .ok (.areturn, 1) := by decide +kernel
theorem dX3_nameOf_86 : decode cX3_nameOf 86 = .ok (.ldc 135, 2) := by decide +kernel
theorem dX3_nameOf_88 : decode cX3_nameOf 88 = .ok (.areturn, 1) := by decide +kernel
theorem dX3_nameOf_89 : decode cX3_nameOf 89 = .ok (.ldc 137, 2) := by decide +kernel
theorem dX3_nameOf_91 : decode cX3_nameOf 91 = .ok (.areturn, 1) := by decide +kernel
theorem dX3_nameOf_92 : decode cX3_nameOf 92 = .ok (.ldc 139, 2) := by decide +kernel
theorem dX3_nameOf_94 : decode cX3_nameOf 94 = .ok (.areturn, 1) := by decide +kernel
theorem dX3_nameOf_95 : decode cX3_nameOf 95 = .ok (.ldc 141, 2) := by decide +kernel
theorem dX3_nameOf_97 : decode cX3_nameOf 97 = .ok (.areturn, 1) := by decide +kernel
theorem dX3_nameOf_98 : decode cX3_nameOf 98 = .ok (.ldc 142, 2) := by decide +kernel
theorem dX3_nameOf_100 : decode cX3_nameOf 100 = .ok (.areturn, 1) := by decide +kernel
theorem dX3_nameOf_101 : decode cX3_nameOf 101 = .ok (.ldc 144, 2) := by decide +kernel
theorem dX3_nameOf_103 : decode cX3_nameOf 103 = .ok (.areturn, 1) := by decide +kernel
theorem dX3_nameOf_104 : decode cX3_nameOf 104 = .ok (.ldc 146, 2) := by decide +kernel
theorem dX3_nameOf_106 : decode cX3_nameOf 106 = .ok (.areturn, 1) := by decide +kernel
theorem dX3_nameOf_107 : decode cX3_nameOf 107 = .ok (.ldc 148, 2) := by decide +kernel
theorem dX3_nameOf_109 : decode cX3_nameOf 109 = .ok (.areturn, 1) := by decide +kernel
theorem dJ6_bitCount_0f7a4_0 : decode cJ6_bitCount_0f7a4 0 = .ok (.iload_n 0, 1) := by decide +kernel
theorem dJ6_bitCount_0f7a4_1 : decode cJ6_bitCount_0f7a4 1 = .ok (.iload_n 0, 1) := by decide +kernel
theorem dJ6_bitCount_0f7a4_2 : decode cJ6_bitCount_0f7a4 2 = .ok (.iconst 1, 1) := by decide +kernel
theorem dJ6_bitCount_0f7a4_3 : decode cJ6_bitCount_0f7a4 3 = .ok (.iushr, 1) := by decide +kernel
theorem dJ6_bitCount_0f7a4_4 : decode cJ6_bitCount_0f7a4 4 = .ok (.ldc_w 265, 3) := by decide +kernel
theorem dJ6_bitCount_0f7a4_7 : decode cJ6_bitCount_0f7a4 7 = .ok (.iand, 1) := by decide +kernel
theorem dJ6_bitCount_0f7a4_8 : decode cJ6_bitCount_0f7a4 8 = .ok (.isub, 1) := by decide +kernel
theorem dJ6_bitCount_0f7a4_9 : decode cJ6_bitCount_0f7a4 9 = .ok (.istore_n 0, 1) := by decide +kernel
theorem dJ6_bitCount_0f7a4_10 : decode cJ6_bitCount_0f7a4 10 = .ok (.iload_n 0, 1) := by decide +kernel
theorem dJ6_bitCount_0f7a4_11 : decode cJ6_bitCount_0f7a4 11 = .ok (.ldc_w 266, 3) := by decide +kernel
theorem dJ6_bitCount_0f7a4_14 : decode cJ6_bitCount_0f7a4 14 = .ok (.iand, 1) := by decide +kernel
theorem dJ6_bitCount_0f7a4_15 : decode cJ6_bitCount_0f7a4 15 = .ok (.iload_n 0, 1) := by decide +kernel
theorem dJ6_bitCount_0f7a4_16 : decode cJ6_bitCount_0f7a4 16 = .ok (.iconst 2, 1) := by decide +kernel
theorem dJ6_bitCount_0f7a4_17 : decode cJ6_bitCount_0f7a4 17 = .ok (.iushr, 1) := by decide +kernel
theorem dJ6_bitCount_0f7a4_18 : decode cJ6_bitCount_0f7a4 18 = .ok (.ldc_w 266, 3) := by decide +kernel
theorem dJ6_bitCount_0f7a4_21 : decode cJ6_bitCount_0f7a4 21 = .ok (.iand, 1) := by decide +kernel
theorem dJ6_bitCount_0f7a4_22 : decode cJ6_bitCount_0f7a4 22 = .ok (.iadd, 1) := by decide +kernel
theorem dJ6_bitCount_0f7a4_23 : decode cJ6_bitCount_0f7a4 23 = .ok (.istore_n 0, 1) := by decide +kernel
theorem dJ6_bitCount_0f7a4_24 : decode cJ6_bitCount_0f7a4 24 = .ok (.iload_n 0, 1) := by decide +kernel
theorem dJ6_bitCount_0f7a4_25 : decode cJ6_bitCount_0f7a4 25 = .ok (.iload_n 0, 1) := by decide +kernel
theorem dJ6_bitCount_0f7a4_26 : decode cJ6_bitCount_0f7a4 26 = .ok (.iconst 4, 1) := by decide +kernel
theorem dJ6_bitCount_0f7a4_27 : decode cJ6_bitCount_0f7a4 27 = .ok (.iushr, 1) := by decide +kernel
theorem dJ6_bitCount_0f7a4_28 : decode cJ6_bitCount_0f7a4 28 = .ok (.iadd, 1) := by decide +kernel
theorem dJ6_bitCount_0f7a4_29 : decode cJ6_bitCount_0f7a4 29 = .ok (.ldc_w 267, 3) := by decide +kernel
theorem dJ6_bitCount_0f7a4_32 : decode cJ6_bitCount_0f7a4 32 = .ok (.iand, 1) := by decide +kernel
theorem dJ6_bitCount_0f7a4_33 : decode cJ6_bitCount_0f7a4 33 = .ok (.istore_n 0, 1) := by decide +kernel
theorem dJ6_bitCount_0f7a4_34 : decode cJ6_bitCount_0f7a4 34 = .ok (.iload_n 0, 1) := by decide +kernel
theorem dJ6_bitCount_0f7a4_35 : decode cJ6_bitCount_0f7a4 35 = .ok (.iload_n 0, 1) := by decide +kernel
theorem dJ6_bitCount_0f7a4_36 : decode cJ6_bitCount_0f7a4 36 = .ok (.bipush 8, 2) := by decide +kernel
theorem dJ6_bitCount_0f7a4_38 : decode cJ6_bitCount_0f7a4 38 = .ok (.iushr, 1) := by decide +kernel
theorem dJ6_bitCount_0f7a4_39 : decode cJ6_bitCount_0f7a4 39 = .ok (.iadd, 1) := by decide +kernel
theorem dJ6_bitCount_0f7a4_40 : decode cJ6_bitCount_0f7a4 40 = .ok (.istore_n 0, 1) := by decide +kernel
theorem dJ6_bitCount_0f7a4_41 : decode cJ6_bitCount_0f7a4 41 = .ok (.iload_n 0, 1) := by decide +kernel
theorem dJ6_bitCount_0f7a4_42 : decode cJ6_bitCount_0f7a4 42 = .ok (.iload_n 0, 1) := by decide +kernel
theorem dJ6_bitCount_0f7a4_43 : decode cJ6_bitCount_0f7a4 43 = .ok (.bipush 16, 2) := by decide +kernel
theorem dJ6_bitCount_0f7a4_45 : decode cJ6_bitCount_0f7a4 45 = .ok (.iushr, 1) := by decide +kernel
theorem dJ6_bitCount_0f7a4_46 : decode cJ6_bitCount_0f7a4 46 = .ok (.iadd, 1) := by decide +kernel
theorem dJ6_bitCount_0f7a4_47 : decode cJ6_bitCount_0f7a4 47 = .ok (.istore_n 0, 1) := by decide +kernel
theorem dJ6_bitCount_0f7a4_48 : decode cJ6_bitCount_0f7a4 48 = .ok (.iload_n 0, 1) := by decide +kernel
theorem dJ6_bitCount_0f7a4_49 : decode cJ6_bitCount_0f7a4 49 = .ok (.bipush 63, 2) := by decide +kernel
theorem dJ6_bitCount_0f7a4_51 : decode cJ6_bitCount_0f7a4 51 = .ok (.iand, 1) := by decide +kernel
theorem dJ6_bitCount_0f7a4_52 : decode cJ6_bitCount_0f7a4 52 = .ok (.ireturn, 1) := by decide +kernel
theorem dJ9_max_7cf53_0 : decode cJ9_max_7cf53 0 = .ok (.iload_n 0, 1) := by decide +kernel
theorem dJ9_max_7cf53_1 : decode cJ9_max_7cf53 1 = .ok (.iload_n 1, 1) := by decide +kernel
theorem dJ9_max_7cf53_2 : decode cJ9_max_7cf53 2 = .ok (.if_icmp .lt 7, 3) := by decide +kernel
theorem dJ9_max_7cf53_5 : decode cJ9_max_7cf53 5 = .ok (.iload_n 0, 1) := by decide +kernel
theorem dJ9_max_7cf53_6 : decode cJ9_max_7cf53 6 = .ok (.goto 4, 3) := by decide +kernel
theorem dJ9_max_7cf53_9 : decode cJ9_max_7cf53 9 = .ok (.iload_n 1, 1) := by decide +kernel
theorem dJ9_max_7cf53_10 : decode cJ9_max_7cf53 10 = .ok (.ireturn, 1) := by decide +kernel
theorem dJ9_min_7cf53_0 : decode cJ9_min_7cf53 0 = .ok (.iload_n 0, 1) := by decide +kernel
theorem dJ9_min_7cf53_1 : decode cJ9_min_7cf53 1 = .ok (.iload_n 1, 1) := by decide +kernel
theorem dJ9_min_7cf53_2 : decode cJ9_min_7cf53 2 = .ok (.if_icmp .gt 7, 3) := by decide +kernel
theorem dJ9_min_7cf53_5 : decode cJ9_min_7cf53 5 = .ok (.iload_n 0, 1) := by decide +kernel
theorem dJ9_min_7cf53_6 : decode cJ9_min_7cf53 6 = .ok (.goto 4, 3) := by decide +kernel
theorem dJ9_min_7cf53_9 : decode cJ9_min_7cf53 9 = .ok (.iload_n 1, 1) := by decide +kernel
theorem dJ9_min_7cf53_10 : decode cJ9_min_7cf53 10 = .ok (.ireturn, 1) := by decide +kernel
theorem dJ0_length_8abf5_0 : decode cJ0_length_8abf5 0 = .ok (.aload_n 0, 1) := by decide +kernel
theorem dJ0_length_8abf5_1 : decode cJ0_length_8abf5 1 = .ok (.getfield 9, 3) := by decide +kernel
theorem dJ0_length_8abf5_4 : decode cJ0_length_8abf5 4 = .ok (.arraylength, 1) := by decide +kernel
theorem dJ0_length_8abf5_5 : decode cJ0_length_8abf5 5 = .ok (.aload_n 0, 1) := by decide +kernel
theorem dJ0_length_8abf5_6 : decode cJ0_length_8abf5 6 = .ok (.invokevirtual 335, 3) := by decide +kernel
theorem dJ0_length_8abf5_9 : decode cJ0_length_8abf5 9 = .ok (.ishr, 1) := by decide +kernel
theorem dJ0_length_8abf5_10 : decode cJ0_length_8abf5 10 = .ok (.ireturn, 1) := by decide +kernel
theorem dJ0_charAt_5068e_0 : decode cJ0_charAt_5068e 0 = .ok (.aload_n 0, 1) := by decide +kernel
theorem dJ0_charAt_5068e_1 : decode cJ0_charAt_5068e 1 = .ok (.invokevirtual 492, 3) := by decide +kernel
theorem dJ0_charAt_5068e_4 : decode cJ0_charAt_5068e 4 = .ok (.ifCond .eq 12, 3) := by decide +kernel
theorem dJ0_charAt_5068e_7 : decode cJ0_charAt_5068e 7 = .ok (.aload_n 0, 1) := by decide +kernel
theorem dJ0_charAt_5068e_8 : decode cJ0_charAt_5068e 8 = .ok (.getfield 9, 3) := by decide +kernel
theorem dJ0_charAt_5068e_11 : decode cJ0_charAt_5068e 11 = .ok (.iload_n 1, 1) := by decide +kernel
theorem dJ0_charAt_5068e_12 : decode cJ0_charAt_5068e 12 = .ok (.invokestatic 495, 3) := by decide +kernel
theorem dJ0_charAt_5068e_15 : decode cJ0_charAt_5068e 15 = .ok (.ireturn, 1) := by decide +kernel
theorem dJ0_charAt_5068e_16 : decode cJ0_charAt_5068e 16 = .ok (.aload_n 0, 1) := by decide +kernel
theorem dJ0_charAt_5068e_17 : decode cJ0_charAt_5068e 17 = .ok (.getfield 9, 3) := by decide +kernel
theorem dJ0_charAt_5068e_20 : decode cJ0_charAt_5068e 20 = .ok (.iload_n 1, 1) := by decide +kernel
theorem dJ0_charAt_5068e_21 : decode cJ0_charAt_5068e 21 = .ok (.invokestatic 498, 3) := by decide +kernel
theorem dJ0_charAt_5068e_24 : decode cJ0_charAt_5068e 24 = .ok (.ireturn, 1) := by decide +kernel
theorem dJ0_coder_7d493_0 : decode cJ0_coder_7d493 0 = .ok (.getstatic 38, 3) := by decide +kernel
theorem dJ0_coder_7d493_3 : decode cJ0_coder_7d493 3 = .ok (.ifCond .eq 10, 3) := by decide +kernel
theorem dJ0_coder_7d493_6 : decode cJ0_coder_7d493 6 = .ok (.aload_n 0, 1) := by decide +kernel
theorem dJ0_coder_7d493_7 : decode cJ0_coder_7d493 7 = .ok (.getfield 15, 3) := by decide +kernel
theorem dJ0_coder_7d493_10 : decode cJ0_coder_7d493 10 = .ok (.goto 4, 3) := by decide +kernel
theorem dJ0_coder_7d493_13 : decode cJ0_coder_7d493 13 = .ok (.iconst 1, 1) := by decide +kernel
theorem dJ0_coder_7d493_14 : decode cJ0_coder_7d493 14 = .ok (.ireturn, 1) := by decide +kernel
theorem dJ0_isLatin1_aae02_0 : decode cJ0_isLatin1_aae02 0 = .ok (.getstatic 38, 3) := by decide +kernel
theorem dJ0_isLatin1_aae02_3 : decode cJ0_isLatin1_aae02 3 = .ok (.ifCond .eq 14, 3) := by decide +kernel
theorem dJ0_isLatin1_aae02_6 : decode cJ0_isLatin1_aae02 6 = .ok (.aload_n 0, 1) := by decide +kernel
theorem dJ0_isLatin1_aae02_7 : decode cJ0_isLatin1_aae02 7 = .ok (.getfield 15, 3) := by decide +kernel
theorem dJ0_isLatin1_aae02_10 : decode cJ0_isLatin1_aae02 10 = .ok (.ifCond .ne 7, 3) := by decide +kernel
theorem dJ0_isLatin1_aae02_13 : decode cJ0_isLatin1_aae02 13 = .ok (.iconst 1, 1) := by decide +kernel
theorem dJ0_isLatin1_aae02_14 : decode cJ0_isLatin1_aae02 14 = .ok (.goto 4, 3) := by decide +kernel
theorem dJ0_isLatin1_aae02_17 : decode cJ0_isLatin1_aae02 17 = .ok (.iconst 0, 1) := by decide +kernel
theorem dJ0_isLatin1_aae02_18 : decode cJ0_isLatin1_aae02 18 = .ok (.ireturn, 1) := by decide +kernel
theorem dJ0_checkIndex_df160_0 : decode cJ0_checkIndex_df160 0 = .ok (.iload_n 0, 1) := by decide +kernel
theorem dJ0_checkIndex_df160_1 : decode cJ0_checkIndex_df160 1 = .ok (.iload_n 1, 1) := by decide +kernel
theorem dJ0_checkIndex_df160_2 : decode cJ0_checkIndex_df160 2 = .ok (.getstatic 1053, 3) := by decide +kernel
theorem dJ0_checkIndex_df160_5 : decode cJ0_checkIndex_df160 5 = .ok (.invokestatic 1059, 3) := by decide +kernel
theorem dJ0_checkIndex_df160_8 : decode cJ0_checkIndex_df160 8 = .ok (.pop, 1) := by decide +kernel
theorem dJ0_checkIndex_df160_9 : decode cJ0_checkIndex_df160 9 = .ok (.return_, 1) := by decide +kernel
theorem dJ1_charAt_3b067_0 : decode cJ1_charAt_3b067 0 = .ok (.iload_n 1, 1) := by decide +kernel
theorem dJ1_charAt_3b067_1 : decode cJ1_charAt_3b067 1 = .ok (.aload_n 0, 1) := by decide +kernel
theorem dJ1_charAt_3b067_2 : decode cJ1_charAt_3b067 2 = .ok (.arraylength, 1) := by decide +kernel
theorem dJ1_charAt_3b067_3 : decode cJ1_charAt_3b067 3 = .ok (.invokestatic 9, 3) := by decide +kernel
theorem dJ1_charAt_3b067_6 : decode cJ1_charAt_3b067 6 = .ok (.aload_n 0, 1) := by decide +kernel
theorem dJ1_charAt_3b067_7 : decode cJ1_charAt_3b067 7 = .ok (.iload_n 1, 1) := by decide +kernel
theorem dJ1_charAt_3b067_8 : decode cJ1_charAt_3b067 8 = .ok (.baload, 1) := by decide +kernel
theorem dJ1_charAt_3b067_9 : decode cJ1_charAt_3b067 9 = .ok (.sipush 255, 3) := by decide +kernel
theorem dJ1_charAt_3b067_12 : decode cJ1_charAt_3b067 12 = .ok (.iand, 1) := by decide +kernel
theorem dJ1_charAt_3b067_13 : decode cJ1_charAt_3b067 13 = .ok (.i2c, 1) := by decide +kernel
theorem dJ1_charAt_3b067_14 : decode cJ1_charAt_3b067 14 = .ok (.ireturn, 1) := by decide +kernel
theorem dJ2_getChar_3b067_0 : decode cJ2_getChar_3b067 0 = .ok (.getstatic 44, 3) := by decide +kernel
theorem dJ2_getChar_3b067_3 : decode cJ2_getChar_3b067 3 = .ok (.ifCond .ne 25, 3) := by decide +kernel
theorem dJ2_getChar_3b067_6 : decode cJ2_getChar_3b067 6 = .ok (.iload_n 1, 1) := by decide +kernel
theorem dJ2_getChar_3b067_7 : decode cJ2_getChar_3b067 7 = .ok (.ifCond .lt 11, 3) := by decide +kernel
theorem dJ2_getChar_3b067_10 : decode cJ2_getChar_3b067 10 = .ok (.iload_n 1, 1) := by decide +kernel
theorem dJ2_getChar_3b067_11 : decode cJ2_getChar_3b067 11 = .ok (.aload_n 0, 1) := by decide +kernel
theorem dJ2_getChar_3b067_12 : decode cJ2_getChar_3b067 12 = .ok (.invokestatic 48, 3) := by decide +kernel
theorem dJ2_getChar_3b067_15 : decode cJ2_getChar_3b067 15 = .ok (.if_icmp .lt 13, 3) := by decide +kernel
theorem dJ2_getChar_3b067_18 : decode cJ2_getChar_3b067 18 = .ok (.new 52, 3) := by decide +kernel
theorem dJ2_getChar_3b067_21 : decode cJ2_getChar_3b067 21 = .ok (.dup, 1) := by decide +kernel
theorem dJ2_getChar_3b067_22 : decode cJ2_getChar_3b067 22 = .ok (.ldc 54, 2) := by decide +kernel
theorem dJ2_getChar_3b067_24 : decode cJ2_getChar_3b067 24 = .ok (.invokespecial 56, 3) := by decide +kernel
theorem dJ2_getChar_3b067_27 : decode cJ2_getChar_3b067 27 = .ok (.athrow, 1) := by decide +kernel
theorem dJ2_getChar_3b067_28 : decode cJ2_getChar_3b067 28 = .ok (.iload_n 1, 1) := by decide +kernel
theorem dJ2_getChar_3b067_29 : decode cJ2_getChar_3b067 29 = .ok (.iconst 1, 1) := by decide +kernel
theorem dJ2_getChar_3b067_30 : decode cJ2_getChar_3b067 30 = .ok (.ishl, 1) := by decide +kernel
theorem dJ2_getChar_3b067_31 : decode cJ2_getChar_3b067 31 = .ok (.istore_n 1, 1) := by decide +kernel
theorem dJ2_getChar_3b067_32 : decode cJ2_getChar_3b067 32 = .ok (.aload_n 0, 1) := by decide +kernel
theorem dJ2_getChar_3b067_33 : decode cJ2_getChar_3b067 33 = .ok (.iload_n 1, 1) := by decide +kernel
theorem dJ2_getChar_3b067_34 : decode cJ2_getChar_3b067 34 = .ok (.iinc 1 1, 3) := by decide +kernel
theorem dJ2_getChar_3b067_37 : decode cJ2_getChar_3b067 37 = .ok (.baload, 1) := by decide +kernel
theorem dJ2_getChar_3b067_38 : decode cJ2_getChar_3b067 38 = .ok (.sipush 255, 3) := by decide +kernel
theorem dJ2_getChar_3b067_41 : decode cJ2_getChar_3b067 41 = .ok (.iand, 1) := by decide +kernel
theorem dJ2_getChar_3b067_42 : decode cJ2_getChar_3b067 42 = .ok (.getstatic 59, 3) := by decide +kernel
theorem dJ2_getChar_3b067_45 : decode cJ2_getChar_3b067 45 = .ok (.ishl, 1) := by decide +kernel
theorem dJ2_getChar_3b067_46 : decode cJ2_getChar_3b067 46 = .ok (.aload_n 0, 1) := by decide +kernel
theorem dJ2_getChar_3b067_47 : decode cJ2_getChar_3b067 47 = .ok (.iload_n 1, 1) := by decide +kernel
theorem dJ2_getChar_3b067_48 : decode cJ2_getChar_3b067 48 = .ok (.baload, 1) := by decide +kernel
theorem dJ2_getChar_3b067_49 : decode cJ2_getChar_3b067 49 = .ok (.sipush 255, 3) := by decide +kernel
theorem dJ2_getChar_3b067_52 : decode cJ2_getChar_3b067 52 = .ok (.iand, 1) := by decide +kernel
theorem dJ2_getChar_3b067_53 : decode cJ2_getChar_3b067 53 = .ok (.getstatic 63, 3) := by decide +kernel
theorem dJ2_getChar_3b067_56 : decode cJ2_getChar_3b067 56 = .ok (.ishl, 1) := by decide +kernel
theorem dJ2_getChar_3b067_57 : decode cJ2_getChar_3b067 57 = .ok (.ior, 1) := by decide +kernel
theorem dJ2_getChar_3b067_58 : decode cJ2_getChar_3b067 58 = .ok (.i2c, 1) := by decide +kernel
theorem dJ2_getChar_3b067_59 : decode cJ2_getChar_3b067 59 = .ok (.ireturn, 1) := by decide +kernel
theorem dJ2_length_9d52b_0 : decode cJ2_length_9d52b 0 = .ok (.aload_n 0, 1) := by decide +kernel
theorem dJ2_length_9d52b_1 : decode cJ2_length_9d52b 1 = .ok (.arraylength, 1) := by decide +kernel
theorem dJ2_length_9d52b_2 : decode cJ2_length_9d52b 2 = .ok (.iconst 1, 1) := by decide +kernel
theorem dJ2_length_9d52b_3 : decode cJ2_length_9d52b 3 = .ok (.ishr, 1) := by decide +kernel
theorem dJ2_length_9d52b_4 : decode cJ2_length_9d52b 4 = .ok (.ireturn, 1) := by decide +kernel
theorem dJ2_charAt_3b067_0 : decode cJ2_charAt_3b067 0 = .ok (.iload_n 1, 1) := by decide +kernel
theorem dJ2_charAt_3b067_1 : decode cJ2_charAt_3b067 1 = .ok (.aload_n 0, 1) := by decide +kernel
theorem dJ2_charAt_3b067_2 : decode cJ2_charAt_3b067 2 = .ok (.invokestatic 67, 3) := by decide +kernel
theorem dJ2_charAt_3b067_5 : decode cJ2_charAt_3b067 5 = .ok (.aload_n 0, 1) := by decide +kernel
theorem dJ2_charAt_3b067_6 : decode cJ2_charAt_3b067 6 = .ok (.iload_n 1, 1) := by decide +kernel
theorem dJ2_charAt_3b067_7 : decode cJ2_charAt_3b067 7 = .ok (.invokestatic 71, 3) := by decide +kernel
theorem dJ2_charAt_3b067_10 : decode cJ2_charAt_3b067 10 = .ok (.ireturn, 1) := by decide +kernel
theorem dJ2_checkIndex_2214a_0 : decode cJ2_checkIndex_2214a 0 = .ok (.iload_n 0, 1) := by decide +kernel
theorem dJ2_checkIndex_2214a_1 : decode cJ2_checkIndex_2214a 1 = .ok (.aload_n 1, 1) := by decide +kernel
theorem dJ2_checkIndex_2214a_2 : decode cJ2_checkIndex_2214a 2 = .ok (.invokestatic 48, 3) := by decide +kernel
theorem dJ2_checkIndex_2214a_5 : decode cJ2_checkIndex_2214a 5 = .ok (.invokestatic 414, 3) := by decide +kernel
theorem dJ2_checkIndex_2214a_8 : decode cJ2_checkIndex_2214a 8 = .ok (.return_, 1) := by decide +kernel
theorem dJ3_checkIndex_8e157_0 : decode cJ3_checkIndex_8e157 0 = .ok (.iload_n 0, 1) := by decide +kernel
theorem dJ3_checkIndex_8e157_1 : decode cJ3_checkIndex_8e157 1 = .ok (.ifCond .lt 8, 3) := by decide +kernel
theorem dJ3_checkIndex_8e157_4 : decode cJ3_checkIndex_8e157 4 = .ok (.iload_n 0, 1) := by decide +kernel
theorem dJ3_checkIndex_8e157_5 : decode cJ3_checkIndex_8e157 5 = .ok (.iload_n 1, 1) := by decide +kernel
theorem dJ3_checkIndex_8e157_6 : decode cJ3_checkIndex_8e157 6 = .ok (.if_icmp .lt 10, 3) := by decide +kernel
theorem dJ3_checkIndex_8e157_9 : decode cJ3_checkIndex_8e157 9 = .ok (.aload_n 2, 1) := by decide +kernel
theorem dJ3_checkIndex_8e157_10 : decode cJ3_checkIndex_8e157 10 = .ok (.iload_n 0, 1) := by decide +kernel
theorem dJ3_checkIndex_8e157_11 : decode cJ3_checkIndex_8e157 11 = .ok (.iload_n 1, 1) := by decide +kernel
theorem dJ3_checkIndex_8e157_12 : decode cJ3_checkIndex_8e157 12 = .ok (.invokestatic 95, 3) := by decide +kernel
theorem dJ3_checkIndex_8e157_15 : decode cJ3_checkIndex_8e157 15 = .ok (.athrow, 1) := by decide +kernel
theorem dJ3_checkIndex_8e157_16 : decode cJ3_checkIndex_8e157 16 = .ok (.iload_n 0, 1) := by decide +kernel
theorem dJ3_checkIndex_8e157_17 : decode cJ3_checkIndex_8e157 17 = .ok (.ireturn, 1) := by decide +kernel
