theorem dX5_best_43 : decode cX5_best 43 = .ok (.if_icmp .ge 49, 3) := by decide +kernel
theorem dX5_best_46 : decode cX5_best 46 = .ok (.aload_n 0, 1) := by decide +kernel
theorem dX5_best_47 : decode cX5_best 47 = .ok (.iload 4, 2) := by decide +kernel
theorem dX5_best_49 : decode cX5_best 49 = .ok (.invokevirtual 133, 3) := by decide +kernel
theorem dX5_best_52 : decode cX5_best 52 = .ok (.pop, 1) := by decide +kernel
theorem dX5_best_53 : decode cX5_best 53 = .ok (.aload_n 0, 1) := by decide +kernel
theorem dX5_best_54 : decode cX5_best 54 = .ok (.iload_n 1, 1) := by decide +kernel
theorem dX5_best_55 : decode cX5_best 55 = .ok (.invokevirtual 164, 3) := by decide +kernel
theorem dX5_best_58 : decode cX5_best 58 = .ok (.istore 5, 2) := by decide +kernel
theorem dX5_best_60 : decode cX5_best 60 = .ok (.iload 5, 2) := by decide +kernel
theorem dX5_best_62 : decode cX5_best 62 = .ok (.iload_n 3, 1) := by decide +kernel
theorem dX5_best_63 : decode cX5_best 63 = .ok (.if_icmp .ge 8, 3) := by decide +kernel
theorem dX5_best_66 : decode cX5_best 66 = .ok (.iload 4, 2) := by decide +kernel
theorem dX5_best_68 : decode cX5_best 68 = .ok (.goto 4, 3) := by decide +kernel
theorem dX5_best_71 : decode cX5_best 71 = .ok (.iload_n 2, 1) := by decide +kernel
theorem dX5_best_72 : decode cX5_best 72 = .ok (.istore_n 2, 1) := by decide +kernel
theorem dX5_best_73 : decode cX5_best 73 = .ok (.iload 5, 2) := by decide +kernel
theorem dX5_best_75 : decode cX5_best 75 = .ok (.iload_n 3, 1) := by decide +kernel
theorem dX5_best_76 : decode cX5_best 76 = .ok (.if_icmp .ge 8, 3) := by decide +kernel
theorem dX5_best_79 : decode cX5_best 79 = .ok (.iload 5, 2) := by decide +kernel
theorem dX5_best_81 : decode cX5_best 81 = .ok (.goto 4, 3) := by decide +kernel
theorem dX5_best_84 : decode cX5_best 84 = .ok (.iload_n 3, 1) := by decide +kernel
theorem dX5_best_85 : decode cX5_best 85 = .ok (.istore_n 3, 1) := by decide +kernel
theorem dX5_best_86 : decode cX5_best 86 = .ok (.iinc 4 1, 3) := by decide +kernel
theorem dX5_best_89 : decode cX5_best 89 = .ok (.goto (-54), 3) := by decide +kernel
theorem dX5_best_92 : decode cX5_best 92 = .ok (.iload_n 2, 1) := by decide +kernel
theorem dX5_best_93 : decode cX5_best 93 = .ok (.ifCond .ge 12, 3) := by decide +kernel
theorem dX5_best_96 : decode cX5_best 96 = .ok (.aload_n 0, 1) := by decide +kernel
theorem dX5_best_97 : decode cX5_best 97 = .ok (.ldc 154, 2) := by decide +kernel
theorem dX5_best_99 : decode cX5_best 99 = .ok (.invokevirtual 57, 3) := by decide +kernel
theorem dX5_best_102 : decode cX5_best 102 = .ok (.goto 4, 3) := by decide +kernel
theorem dX5_best_105 : decode cX5_best 105 = .ok (.iload_n 2, 1) := by decide +kernel
theorem dX5_best_106 : decode cX5_best 106 = .ok (.ireturn, 1) := by decide +kernel
theorem dX5_delay_0 : decode cX5_delay 0 = .ok (.aload_n 0, 1) := by decide +kernel
theorem dX5_delay_1 : decode cX5_delay 1 = .ok (.iload_n 1, 1) := by decide +kernel
theorem dX5_delay_2 : decode cX5_delay 2 = .ok (.invokevirtual 103, 3) := by decide +kernel
theorem dX5_delay_5 : decode cX5_delay 5 = .ok (.ifCond .eq 20, 3) := by decide +kernel
theorem dX5_delay_8 : decode cX5_delay 8 = .ok (.iload_n 2, 1) := by decide +kernel
theorem dX5_delay_9 : decode cX5_delay 9 = .ok (.invokestatic 61, 3) := by decide +kernel
theorem dX5_delay_12 : decode cX5_delay 12 = .ok (.ifCond .eq 13, 3) := by decide +kernel
theorem dX5_delay_15 : decode cX5_delay 15 = .ok (.iload_n 3, 1) := by decide +kernel
theorem dX5_delay_16 : decode cX5_delay 16 = .ok (.iconst 1, 1) := by decide +kernel
theorem dX5_delay_17 : decode cX5_delay 17 = .ok (.bipush 20, 2) := by decide +kernel
theorem dX5_delay_19 : decode cX5_delay 19 = .ok (.invokestatic 49, 3) := by decide +kernel
theorem dX5_delay_22 : decode cX5_delay 22 = .ok (.ifCond .ne 10, 3) := by decide +kernel
theorem dX5_delay_25 : decode cX5_delay 25 = .ok (.aload_n 0, 1) := by decide +kernel
theorem dX5_delay_26 : decode cX5_delay 26 = .ok (.ldc 48, 2) := by decide +kernel
theorem dX5_delay_28 : decode cX5_delay 28 = .ok (.invokevirtual 57, 3) := by decide +kernel
theorem dX5_delay_31 : decode cX5_delay 31 = .ok (.ireturn, 1) := by decide +kernel
theorem dX5_delay_32 : decode cX5_delay 32 = .ok (.iconst 0, 1) := by decide +kernel
theorem dX5_delay_33 : decode cX5_delay 33 = .ok (.istore 4, 2) := by decide +kernel
theorem dX5_delay_35 : decode cX5_delay 35 = .ok (.iconst (-1), 1) := by decide +kernel
theorem dX5_delay_36 : decode cX5_delay 36 = .ok (.istore 5, 2) := by decide +kernel
theorem dX5_delay_38 : decode cX5_delay 38 = .ok (.aload_n 0, 1) := by decide +kernel
theorem dX5_delay_39 : decode cX5_delay 39 = .ok (.iconst 1, 1) := by decide +kernel
theorem dX5_delay_40 : decode cX5_delay 40 = .ok (.aload_n 0, 1) := by decide +kernel
theorem dX5_delay_41 : decode cX5_delay 41 = .ok (.getfield 16, 3) := by decide +kernel
theorem dX5_delay_44 : decode cX5_delay 44 = .ok (.invokevirtual 147, 3) := by decide +kernel
theorem dX5_delay_47 : decode cX5_delay 47 = .ok (.iconst 0, 1) := by decide +kernel
theorem dX5_delay_48 : decode cX5_delay 48 = .ok (.istore 6, 2) := by decide +kernel
theorem dX5_delay_50 : decode cX5_delay 50 = .ok (.iload 6, 2) := by decide +kernel
theorem dX5_delay_52 : decode cX5_delay 52 = .ok (.bipush 20, 2) := by decide +kernel
theorem dX5_delay_54 : decode cX5_delay 54 = .ok (.if_icmp .gt 78, 3) := by decide +kernel
theorem dX5_delay_57 : decode cX5_delay 57 = .ok (.aload_n 0, 1) := by decide +kernel
theorem dX5_delay_58 : decode cX5_delay 58 = .ok (.iload 6, 2) := by decide +kernel
theorem dX5_delay_60 : decode cX5_delay 60 = .ok (.invokevirtual 143, 3) := by decide +kernel
theorem dX5_delay_63 : decode cX5_delay 63 = .ok (.aload_n 0, 1) := by decide +kernel
theorem dX5_delay_64 : decode cX5_delay 64 = .ok (.iload_n 1, 1) := by decide +kernel
theorem dX5_delay_65 : decode cX5_delay 65 = .ok (.invokevirtual 136, 3) := by decide +kernel
theorem dX5_delay_68 : decode cX5_delay 68 = .ok (.pop, 1) := by decide +kernel
theorem dX5_delay_69 : decode cX5_delay 69 = .ok (.aload_n 0, 1) := by decide +kernel
theorem dX5_delay_70 : decode cX5_delay 70 = .ok (.iload_n 3, 1) := by decide +kernel
theorem dX5_delay_71 : decode cX5_delay 71 = .ok (.invokevirtual 143, 3) := by decide +kernel
theorem dX5_delay_74 : decode cX5_delay 74 = .ok (.aload_n 0, 1) := by decide +kernel
theorem dX5_delay_75 : decode cX5_delay 75 = .ok (.iload_n 2, 1) := by decide +kernel
theorem dX5_delay_76 : decode cX5_delay 76 = .ok (.iconst 1, 1) := by decide +kernel
theorem dX5_delay_77 : decode cX5_delay 77 = .ok (.invokevirtual 71, 3) := by decide +kernel
theorem dX5_delay_80 : decode cX5_delay 80 = .ok (.invokestatic 77, 3) := by decide +kernel
theorem dX5_delay_83 : decode cX5_delay 83 = .ok (.istore 7, 2) := by decide +kernel
theorem dX5_delay_85 : decode cX5_delay 85 = .ok (.aload_n 0, 1) := by decide +kernel
theorem dX5_delay_86 : decode cX5_delay 86 = .ok (.iconst 0, 1) := by decide +kernel
theorem dX5_delay_87 : decode cX5_delay 87 = .ok (.aload_n 0, 1) := by decide +kernel
theorem dX5_delay_88 : decode cX5_delay 88 = .ok (.getfield 16, 3) := by decide +kernel
theorem dX5_delay_91 : decode cX5_delay 91 = .ok (.invokevirtual 147, 3) := by decide +kernel
theorem dX5_delay_94 : decode cX5_delay 94 = .ok (.iload 7, 2) := by decide +kernel
theorem dX5_delay_96 : decode cX5_delay 96 = .ok (.iload 5, 2) := by decide +kernel
theorem dX5_delay_98 : decode cX5_delay 98 = .ok (.if_icmp .le 8, 3) := by decide +kernel
theorem dX5_delay_101 : decode cX5_delay 101 = .ok (.iload 6, 2) := by decide +kernel
theorem dX5_delay_103 : decode cX5_delay 103 = .ok (.goto 5, 3) := by decide +kernel
theorem dX5_delay_106 : decode cX5_delay 106 = .ok (.iload 4, 2) := by decide +kernel
theorem dX5_delay_108 : decode cX5_delay 108 = .ok (.istore 4, 2) := by decide +kernel
theorem dX5_delay_110 : decode cX5_delay 110 = .ok (.iload 7, 2) := by decide +kernel
theorem dX5_delay_112 : decode cX5_delay 112 = .ok (.iload 5, 2) := by decide +kernel
theorem dX5_delay_114 : decode cX5_delay 114 = .ok (.if_icmp .le 8, 3) := by decide +kernel
theorem dX5_delay_117 : decode cX5_delay 117 = .ok (.iload 7, 2) := by decide +kernel
theorem dX5_delay_119 : decode cX5_delay 119 = .ok (.goto 5, 3) := by decide +kernel
theorem dX5_delay_122 : decode cX5_delay 122 = .ok (.iload 5, 2) := by decide +kernel
theorem dX5_delay_124 : decode cX5_delay 124 = .ok (.istore 5, 2) := by decide +kernel
theorem dX5_delay_126 : decode cX5_delay 126 = .ok (.iinc 6 1, 3) := by decide +kernel
theorem dX5_delay_129 : decode cX5_delay 129 = .ok (.goto (-79), 3) := by decide +kernel
theorem dX5_delay_132 : decode cX5_delay 132 = .ok (.iload 4, 2) := by decide +kernel
theorem dX5_delay_134 : decode cX5_delay 134 = .ok (.ireturn, 1) := by decide +kernel
theorem dX5_bears_0 : decode cX5_bears 0 = .ok (.iload_n 1, 1) := by decide +kernel
theorem dX5_bears_1 : decode cX5_bears 1 = .ok (.iconst 1, 1) := by decide +kernel
theorem dX5_bears_2 : decode cX5_bears 2 = .ok (.bipush 40, 2) := by decide +kernel
theorem dX5_bears_4 : decode cX5_bears 4 = .ok (.invokestatic 49, 3) := by decide +kernel
theorem dX5_bears_7 : decode cX5_bears 7 = .ok (.ifCond .ne 10, 3) := by decide +kernel
theorem dX5_bears_10 : decode cX5_bears 10 = .ok (.aload_n 0, 1) := by decide +kernel
theorem dX5_bears_11 : decode cX5_bears 11 = .ok (.ldc 48, 2) := by decide +kernel
theorem dX5_bears_13 : decode cX5_bears 13 = .ok (.invokevirtual 57, 3) := by decide +kernel
theorem dX5_bears_16 : decode cX5_bears 16 = .ok (.ireturn, 1) := by decide +kernel
theorem dX5_bears_17 : decode cX5_bears 17 = .ok (.bipush 21, 2) := by decide +kernel
theorem dX5_bears_19 : decode cX5_bears 19 = .ok (.istore_n 2, 1) := by decide +kernel
theorem dX5_bears_20 : decode cX5_bears 20 = .ok (.aload_n 0, 1) := by decide +kernel
theorem dX5_bears_21 : decode cX5_bears 21 = .ok (.invokevirtual 80, 3) := by decide +kernel
theorem dX5_bears_24 : decode cX5_bears 24 = .ok (.istore_n 3, 1) := by decide +kernel
theorem dX5_bears_25 : decode cX5_bears 25 = .ok (.iconst 0, 1) := by decide +kernel
theorem dX5_bears_26 : decode cX5_bears 26 = .ok (.istore 4, 2) := by decide +kernel
theorem dX5_bears_28 : decode cX5_bears 28 = .ok (.aload_n 0, 1) := by decide +kernel
theorem dX5_bears_29 : decode cX5_bears 29 = .ok (.iconst 1, 1) := by decide +kernel
theorem dX5_bears_30 : decode cX5_bears 30 = .ok (.aload_n 0, 1) := by decide +kernel
theorem dX5_bears_31 : decode cX5_bears 31 = .ok (.getfield 16, 3) := by decide +kernel
theorem dX5_bears_34 : decode cX5_bears 34 = .ok (.invokevirtual 147, 3) := by decide +kernel
theorem dX5_bears_37 : decode cX5_bears 37 = .ok (.iload_n 2, 1) := by decide +kernel
theorem dX5_bears_38 : decode cX5_bears 38 = .ok (.ifCond .le 37, 3) := by decide +kernel
theorem dX5_bears_41 : decode cX5_bears 41 = .ok (.iload 4, 2) := by decide +kernel
theorem dX5_bears_43 : decode cX5_bears 43 = .ok (.ifCond .ne 32, 3) := by decide +kernel
theorem dX5_bears_46 : decode cX5_bears 46 = .ok (.iinc 2 (-1), 3) := by decide +kernel
theorem dX5_bears_49 : decode cX5_bears 49 = .ok (.aload_n 0, 1) := by decide +kernel
theorem dX5_bears_50 : decode cX5_bears 50 = .ok (.getfield 7, 3) := by decide +kernel
theorem dX5_bears_53 : decode cX5_bears 53 = .ok (.iconst 1, 1) := by decide +kernel
theorem dX5_bears_54 : decode cX5_bears 54 = .ok (.iload_n 2, 1) := by decide +kernel
theorem dX5_bears_55 : decode cX5_bears 55 = .ok (.iastore, 1) := by decide +kernel
theorem dX5_bears_56 : decode cX5_bears 56 = .ok (.aload_n 0, 1) := by decide +kernel
theorem dX5_bears_57 : decode cX5_bears 57 = .ok (.iload_n 1, 1) := by decide +kernel
theorem dX5_bears_58 : decode cX5_bears 58 = .ok (.invokevirtual 164, 3) := by decide +kernel
theorem dX5_bears_61 : decode cX5_bears 61 = .ok (.iload_n 3, 1) := by decide +kernel
theorem dX5_bears_62 : decode cX5_bears 62 = .ok (.if_icmp .gt 7, 3) := by decide +kernel
theorem dX5_bears_65 : decode cX5_bears 65 = .ok (.iconst 1, 1) := by decide +kernel
theorem dX5_bears_66 : decode cX5_bears 66 = .ok (.goto 4, 3) := by decide +kernel
theorem dX5_bears_69 : decode cX5_bears 69 = .ok (.iconst 0, 1) := by decide +kernel
theorem dX5_bears_70 : decode cX5_bears 70 = .ok (.istore 4, 2) := by decide +kernel
theorem dX5_bears_72 : decode cX5_bears 72 = .ok (.goto (-35), 3) := by decide +kernel
theorem dX5_bears_75 : decode cX5_bears 75 = .ok (.iload 4, 2) := by decide +kernel
theorem dX5_bears_77 : decode cX5_bears 77 = .ok (.ifCond .eq 7, 3) := by decide +kernel
theorem dX5_bears_80 : decode cX5_bears 80 = .ok (.iload_n 2, 1) := by decide +kernel
theorem dX5_bears_81 : decode cX5_bears 81 = .ok (.goto 9, 3) := by decide +kernel
theorem dX5_bears_84 : decode cX5_bears 84 = .ok (.aload_n 0, 1) := by decide +kernel
theorem dX5_bears_85 : decode cX5_bears 85 = .ok (.ldc 154, 2) := by decide +kernel
theorem dX5_bears_87 : decode cX5_bears 87 = .ok (.invokevirtual 57, 3) := by decide +kernel
theorem dX5_bears_90 : decode cX5_bears 90 = .ok (.ireturn, 1) := by decide +kernel
theorem dX5_fullest_0 : decode cX5_fullest 0 = .ok (.iload_n 1, 1) := by decide +kernel
theorem dX5_fullest_1 : decode cX5_fullest 1 = .ok (.iconst 0, 1) := by decide +kernel
theorem dX5_fullest_2 : decode cX5_fullest 2 = .ok (.bipush 100, 2) := by decide +kernel
theorem dX5_fullest_4 : decode cX5_fullest 4 = .ok (.invokestatic 49, 3) := by decide +kernel
theorem dX5_fullest_7 : decode cX5_fullest 7 = .ok (.ifCond .ne 10, 3) := by decide +kernel
theorem dX5_fullest_10 : decode cX5_fullest 10 = .ok (.aload_n 0, 1) := by decide +kernel
theorem dX5_fullest_11 : decode cX5_fullest 11 = .ok (.ldc 48, 2) := by decide +kernel
theorem dX5_fullest_13 : decode cX5_fullest 13 = .ok (.invokevirtual 57, 3) := by decide +kernel
theorem dX5_fullest_16 : decode cX5_fullest 16 = .ok (.ireturn, 1) := by decide +kernel
theorem dX5_fullest_17 : decode cX5_fullest 17 = .ok (.iconst 0, 1) := by decide +kernel
theorem dX5_fullest_18 : decode cX5_fullest 18 = .ok (.istore_n 2, 1) := by decide +kernel
theorem dX5_fullest_19 : decode cX5_fullest 19 = .ok (.aload_n 0, 1) := by decide +kernel
theorem dX5_fullest_20 : decode cX5_fullest 20 = .ok (.iconst 1, 1) := by decide +kernel
theorem dX5_fullest_21 : decode cX5_fullest 21 = .ok (.aload_n 0, 1) := by decide +kernel
theorem dX5_fullest_22 : decode cX5_fullest 22 = .ok (.getfield 16, 3) := by decide +kernel
theorem dX5_fullest_25 : decode cX5_fullest 25 = .ok (.invokevirtual 147, 3) := by decide +kernel
theorem dX5_fullest_28 : decode cX5_fullest 28 = .ok (.aload_n 0, 1) := by decide +kernel
theorem dX5_fullest_29 : decode cX5_fullest 29 = .ok (.iload_n 1, 1) := by decide +kernel
theorem dX5_fullest_30 : decode cX5_fullest 30 = .ok (.invokevirtual 143, 3) := by decide +kernel
theorem dX5_fullest_33 : decode cX5_fullest 33 = .ok (.iconst 1, 1) := by decide +kernel
theorem dX5_fullest_34 : decode cX5_fullest 34 = .ok (.istore_n 3, 1) := by decide +kernel
theorem dX5_fullest_35 : decode cX5_fullest 35 = .ok (.iload_n 3, 1) := by decide +kernel
theorem dX5_fullest_36 : decode cX5_fullest 36 = .ok (.bipush 8, 2) := by decide +kernel
theorem dX5_fullest_38 : decode cX5_fullest 38 = .ok (.if_icmp .ge 36, 3) := by decide +kernel
theorem dX5_fullest_41 : decode cX5_fullest 41 = .ok (.aload_n 0, 1) := by decide +kernel
theorem dX5_fullest_42 : decode cX5_fullest 42 = .ok (.iload_n 3, 1) := by decide +kernel
theorem dX5_fullest_43 : decode cX5_fullest 43 = .ok (.iconst 1, 1) := by decide +kernel
theorem dX5_fullest_44 : decode cX5_fullest 44 = .ok (.invokevirtual 71, 3) := by decide +kernel
theorem dX5_fullest_47 : decode cX5_fullest 47 = .ok (.invokestatic 77, 3) := by decide +kernel
theorem dX5_fullest_50 : decode cX5_fullest 50 = .ok (.aload_n 0, 1) := by decide +kernel
theorem dX5_fullest_51 : decode cX5_fullest 51 = .ok (.iload_n 2, 1) := by decide +kernel
theorem dX5_fullest_52 : decode cX5_fullest 52 = .ok (.iconst 1, 1) := by decide +kernel
theorem dX5_fullest_53 : decode cX5_fullest 53 = .ok (.invokevirtual 71, 3) := by decide +kernel
theorem dX5_fullest_56 : decode cX5_fullest 56 = .ok (.invokestatic 77, 3) := by decide +kernel
theorem dX5_fullest_59 : decode cX5_fullest 59 = .ok (.if_icmp .le 7, 3) := by decide +kernel
theorem dX5_fullest_62 : decode cX5_fullest 62 = .ok (.iload_n 3, 1) := by decide +kernel
theorem dX5_fullest_63 : decode cX5_fullest 63 = .ok (.goto 4, 3) := by decide +kernel
theorem dX5_fullest_66 : decode cX5_fullest 66 = .ok (.iload_n 2, 1) := by decide +kernel
theorem dX5_fullest_67 : decode cX5_fullest 67 = .ok (.istore_n 2, 1) := by decide +kernel
theorem dX5_fullest_68 : decode cX5_fullest 68 = .ok (.iinc 3 1, 3) := by decide +kernel
theorem dX5_fullest_71 : decode cX5_fullest 71 = .ok (.goto (-36), 3) := by decide +kernel
theorem dX5_fullest_74 : decode cX5_fullest 74 = .ok (.aload_n 0, 1) := by decide +kernel
theorem dX5_fullest_75 : decode cX5_fullest 75 = .ok (.iconst 0, 1) := by decide +kernel
theorem dX5_fullest_76 : decode cX5_fullest 76 = .ok (.aload_n 0, 1) := by decide +kernel
theorem dX5_fullest_77 : decode cX5_fullest 77 = .ok (.getfield 16, 3) := by decide +kernel
theorem dX5_fullest_80 : decode cX5_fullest 80 = .ok (.invokevirtual 147, 3) := by decide +kernel
theorem dX5_fullest_83 : decode cX5_fullest 83 = .ok (.iload_n 2, 1) := by decide +kernel
theorem dX5_fullest_84 : decode cX5_fullest 84 = .ok (.ireturn, 1) := by decide +kernel
theorem dX5_feed_0 : decode cX5_feed 0 = .ok (.iload_n 2, 1) := by decide +kernel
theorem dX5_feed_1 : decode cX5_feed 1 = .ok (.iconst 1, 1) := by decide +kernel
theorem dX5_feed_2 : decode cX5_feed 2 = .ok (.iconst 4, 1) := by decide +kernel
theorem dX5_feed_3 : decode cX5_feed 3 = .ok (.invokestatic 49, 3) := by decide +kernel
theorem dX5_feed_6 : decode cX5_feed 6 = .ok (.ifCond .ne 10, 3) := by decide +kernel
theorem dX5_feed_9 : decode cX5_feed 9 = .ok (.aload_n 0, 1) := by decide +kernel
theorem dX5_feed_10 : decode cX5_feed 10 = .ok (.ldc 48, 2) := by decide +kernel
theorem dX5_feed_12 : decode cX5_feed 12 = .ok (.invokevirtual 57, 3) := by decide +kernel
theorem dX5_feed_15 : decode cX5_feed 15 = .ok (.ireturn, 1) := by decide +kernel
theorem dX5_feed_16 : decode cX5_feed 16 = .ok (.aload_n 0, 1) := by decide +kernel
theorem dX5_feed_17 : decode cX5_feed 17 = .ok (.getfield 174, 3) := by decide +kernel
theorem dX5_feed_20 : decode cX5_feed 20 = .ok (.iload_n 2, 1) := by decide +kernel
theorem dX5_feed_21 : decode cX5_feed 21 = .ok (.iadd, 1) := by decide +kernel
theorem dX5_feed_22 : decode cX5_feed 22 = .ok (.bipush 120, 2) := by decide +kernel
theorem dX5_feed_24 : decode cX5_feed 24 = .ok (.if_icmp .le 10, 3) := by decide +kernel
theorem dX5_feed_27 : decode cX5_feed 27 = .ok (.aload_n 0, 1) := by decide +kernel
theorem dX5_feed_28 : decode cX5_feed 28 = .ok (.ldc 99, 2) := by decide +kernel
theorem dX5_feed_30 : decode cX5_feed 30 = .ok (.invokevirtual 57, 3) := by decide +kernel
theorem dX5_feed_33 : decode cX5_feed 33 = .ok (.ireturn, 1) := by decide +kernel
theorem dX5_feed_34 : decode cX5_feed 34 = .ok (.iload_n 2, 1) := by decide +kernel
theorem dX5_feed_35 : decode cX5_feed 35 = .ok (.iconst 1, 1) := by decide +kernel
theorem dX5_feed_36 : decode cX5_feed 36 = .ok (.isub, 1) := by decide +kernel
theorem dX5_feed_37 : decode cX5_feed 37 = .ok (.istore_n 3, 1) := by decide +kernel
theorem dX5_feed_38 : decode cX5_feed 38 = .ok (.iload_n 3, 1) := by decide +kernel
theorem dX5_feed_39 : decode cX5_feed 39 = .ok (.ifCond .lt 38, 3) := by decide +kernel
theorem dX5_feed_42 : decode cX5_feed 42 = .ok (.aload_n 0, 1) := by decide +kernel
theorem dX5_feed_43 : decode cX5_feed 43 = .ok (.getfield 22, 3) := by decide +kernel
theorem dX5_feed_46 : decode cX5_feed 46 = .ok (.aload_n 0, 1) := by decide +kernel
theorem dX5_feed_47 : decode cX5_feed 47 = .ok (.getfield 174, 3) := by decide +kernel
theorem dX5_feed_50 : decode cX5_feed 50 = .ok (.iload_n 1, 1) := by decide +kernel
theorem dX5_feed_51 : decode cX5_feed 51 = .ok (.bipush 8, 2) := by decide +kernel
theorem dX5_feed_53 : decode cX5_feed 53 = .ok (.iload_n 3, 1) := by decide +kernel
theorem dX5_feed_54 : decode cX5_feed 54 = .ok (.imul, 1) := by decide +kernel
theorem dX5_feed_55 : decode cX5_feed 55 = .ok (.ishr, 1) := by decide +kernel
theorem dX5_feed_56 : decode cX5_feed 56 = .ok (.sipush 255, 3) := by decide +kernel
theorem dX5_feed_59 : decode cX5_feed 59 = .ok (.iand, 1) := by decide +kernel
theorem dX5_feed_60 : decode cX5_feed 60 = .ok (.iastore, 1) := by decide +kernel
theorem dX5_feed_61 : decode cX5_feed 61 = .ok (.aload_n 0, 1) := by decide +kernel
theorem dX5_feed_62 : decode cX5_feed 62 = .ok (.dup, 1) := by decide +kernel
theorem dX5_feed_63 : decode cX5_feed 63 = .ok (.getfield 174, 3) := by decide +kernel
theorem dX5_feed_66 : decode cX5_feed 66 = .ok (.iconst 1, 1) := by decide +kernel
theorem dX5_feed_67 : decode cX5_feed 67 = .ok (.iadd, 1) := by decide +kernel
theorem dX5_feed_68 : decode cX5_feed 68 = .ok (.putfield 174, 3) := by decide +kernel
theorem dX5_feed_71 : decode cX5_feed 71 = .ok (.iinc 3 (-1), 3) := by decide +kernel
theorem dX5_feed_74 : decode cX5_feed 74 = .ok (.goto (-36), 3) := by decide +kernel
theorem dX5_feed_77 : decode cX5_feed 77 = .ok (.aload_n 0, 1) := by decide +kernel
theorem dX5_feed_78 : decode cX5_feed 78 = .ok (.getfield 174, 3) := by decide +kernel
theorem dX5_feed_81 : decode cX5_feed 81 = .ok (.ireturn, 1) := by decide +kernel
theorem dX5_wipe_0 : decode cX5_wipe 0 = .ok (.aload_n 0, 1) := by decide +kernel
theorem dX5_wipe_1 : decode cX5_wipe 1 = .ok (.getfield 174, 3) := by decide +kernel
theorem dX5_wipe_4 : decode cX5_wipe 4 = .ok (.istore_n 1, 1) := by decide +kernel
theorem dX5_wipe_5 : decode cX5_wipe 5 = .ok (.aload_n 0, 1) := by decide +kernel
theorem dX5_wipe_6 : decode cX5_wipe 6 = .ok (.iconst 0, 1) := by decide +kernel
theorem dX5_wipe_7 : decode cX5_wipe 7 = .ok (.putfield 174, 3) := by decide +kernel
theorem dX5_wipe_10 : decode cX5_wipe 10 = .ok (.iload_n 1, 1) := by decide +kernel
theorem dX5_wipe_11 : decode cX5_wipe 11 = .ok (.ireturn, 1) := by decide +kernel
theorem dX5_byteAt_0 : decode cX5_byteAt 0 = .ok (.iload_n 1, 1) := by decide +kernel
theorem dX5_byteAt_1 : decode cX5_byteAt 1 = .ok (.aload_n 0, 1) := by decide +kernel
theorem dX5_byteAt_2 : decode cX5_byteAt 2 = .ok (.getfield 174, 3) := by decide +kernel
theorem dX5_byteAt_5 : decode cX5_byteAt 5 = .ok (.if_icmp .ge 12, 3) := by decide +kernel
theorem dX5_byteAt_8 : decode cX5_byteAt 8 = .ok (.aload_n 0, 1) := by decide +kernel
theorem dX5_byteAt_9 : decode cX5_byteAt 9 = .ok (.getfield 22, 3) := by decide +kernel
theorem dX5_byteAt_12 : decode cX5_byteAt 12 = .ok (.iload_n 1, 1) := by decide +kernel
theorem dX5_byteAt_13 : decode cX5_byteAt 13 = .ok (.iaload, 1) := by decide +kernel
theorem dX5_byteAt_14 : decode cX5_byteAt 14 = .ok (.goto 4, 3) := by decide +kernel
theorem dX5_byteAt_17 : decode cX5_byteAt 17 = .ok (.iconst (-1), 1) := by decide +kernel
theorem dX5_byteAt_18 : decode cX5_byteAt 18 = .ok (.ireturn, 1) := by decide +kernel
theorem dX5_isLetter_0 : decode cX5_isLetter 0 = .ok (.iload_n 0, 1) := by decide +kernel
theorem dX5_isLetter_1 : decode cX5_isLetter 1 = .ok (.bipush 97, 2) := by decide +kernel
theorem dX5_isLetter_3 : decode cX5_isLetter 3 = .ok (.bipush 122, 2) := by decide +kernel
theorem dX5_isLetter_5 : decode cX5_isLetter 5 = .ok (.invokestatic 49, 3) := by decide +kernel
theorem dX5_isLetter_8 : decode cX5_isLetter 8 = .ok (.ireturn, 1) := by decide +kernel
theorem dX5_isDigit_0 : decode cX5_isDigit 0 = .ok (.iload_n 0, 1) := by decide +kernel
theorem dX5_isDigit_1 : decode cX5_isDigit 1 = .ok (.bipush 48, 2) := by decide +kernel
theorem dX5_isDigit_3 : decode cX5_isDigit 3 = .ok (.bipush 57, 2) := by decide +kernel
theorem dX5_isDigit_5 : decode cX5_isDigit 5 = .ok (.invokestatic 49, 3) := by decide +kernel
theorem dX5_isDigit_8 : decode cX5_isDigit 8 = .ok (.ireturn, 1) := by decide +kernel
theorem dX5_advance_0 : decode cX5_advance 0 = .ok (.aload_n 0, 1) := by decide +kernel
theorem dX5_advance_1 : decode cX5_advance 1 = .ok (.aload_n 0, 1) := by decide +kernel
theorem dX5_advance_2 : decode cX5_advance 2 = .ok (.getfield 178, 3) := by decide +kernel
theorem dX5_advance_5 : decode cX5_advance 5 = .ok (.putfield 181, 3) := by decide +kernel
theorem dX5_advance_8 : decode cX5_advance 8 = .ok (.aload_n 0, 1) := by decide +kernel
theorem dX5_advance_9 : decode cX5_advance 9 = .ok (.aload_n 0, 1) := by decide +kernel
theorem dX5_advance_10 : decode cX5_advance 10 = .ok (.getfield 181, 3) := by decide +kernel
theorem dX5_advance_13 : decode cX5_advance 13 = .ok (.invokevirtual 184, 3) := by decide +kernel
theorem dX5_advance_16 : decode cX5_advance 16 = .ok (.bipush 32, 2) := by decide +kernel
theorem dX5_advance_18 : decode cX5_advance 18 = .ok (.if_icmp .ne 16, 3) := by decide +kernel
theorem dX5_advance_21 : decode cX5_advance 21 = .ok (.aload_n 0, 1) := by decide +kernel
theorem dX5_advance_22 : decode cX5_advance 22 = .ok (.dup, 1) := by decide +kernel
theorem dX5_advance_23 : decode cX5_advance 23 = .ok (.getfield 181, 3) := by decide +kernel
theorem dX5_advance_26 : decode cX5_advance 26 = .ok (.iconst 1, 1) := by decide +kernel
theorem dX5_advance_27 : decode cX5_advance 27 = .ok (.iadd, 1) := by decide +kernel
theorem dX5_advance_28 : decode cX5_advance 28 = .ok (.putfield 181, 3) := by decide +kernel
theorem dX5_advance_31 : decode cX5_advance 31 = .ok (.goto (-23), 3) := by decide +kernel
theorem dX5_advance_34 : decode cX5_advance 34 = .ok (.aload_n 0, 1) := by decide +kernel
theorem dX5_advance_35 : decode cX5_advance 35 = .ok (.aload_n 0, 1) := by decide +kernel
theorem dX5_advance_36 : decode cX5_advance 36 = .ok (.getfield 181, 3) := by decide +kernel
theorem dX5_advance_39 : decode cX5_advance 39 = .ok (.putfield 178, 3) := by decide +kernel
theorem dX5_advance_42 : decode cX5_advance 42 = .ok (.aload_n 0, 1) := by decide +kernel
theorem dX5_advance_43 : decode cX5_advance 43 = .ok (.aload_n 0, 1) := by decide +kernel
theorem dX5_advance_44 : decode cX5_advance 44 = .ok (.getfield 181, 3) := by decide +kernel
theorem dX5_advance_47 : decode cX5_advance 47 = .ok (.invokevirtual 184, 3) := by decide +kernel
theorem dX5_advance_50 : decode cX5_advance 50 = .ok (.istore_n 1, 1) := by decide +kernel
theorem dX5_advance_51 : decode cX5_advance 51 = .ok (.aload_n 0, 1) := by decide +kernel
theorem dX5_advance_52 : decode cX5_advance 52 = .ok (.iload_n 1, 1) := by decide +kernel
theorem dX5_advance_53 : decode cX5_advance 53 = .ok (.ifCond .ge 7, 3) := by decide +kernel
theorem dX5_advance_56 : decode cX5_advance 56 = .ok (.iconst 0, 1) := by decide +kernel
theorem dX5_advance_57 : decode cX5_advance 57 = .ok (.goto 26, 3) := by decide +kernel
theorem dX5_advance_60 : decode cX5_advance 60 = .ok (.iload_n 1, 1) := by decide +kernel
theorem dX5_advance_61 : decode cX5_advance 61 = .ok (.invokestatic 187, 3) := by decide +kernel
theorem dX5_advance_64 : decode cX5_advance 64 = .ok (.ifCond .eq 7, 3) := by decide +kernel
theorem dX5_advance_67 : decode cX5_advance 67 = .ok (.iconst 1, 1) := by decide +kernel
theorem dX5_advance_68 : decode cX5_advance 68 = .ok (.goto 15, 3) := by decide +kernel
theorem dX5_advance_71 : decode cX5_advance 71 = .ok (.iload_n 1, 1) := by decide +kernel
theorem dX5_advance_72 : decode cX5_advance 72 = .ok (.invokestatic 190, 3) := by decide +kernel
theorem dX5_advance_75 : decode cX5_advance 75 = .ok (.ifCond .eq 7, 3) := by decide +kernel
theorem dX5_advance_78 : decode cX5_advance 78 = .ok (.iconst 2, 1) := by decide +kernel
theorem dX5_advance_79 : decode cX5_advance 79 = .ok (.goto 4, 3) := by decide +kernel
theorem dX5_advance_82 : decode cX5_advance 82 = .ok (.iconst 3, 1) := by decide +kernel
theorem dX5_advance_83 : decode cX5_advance 83 = .ok (.putfield 193, 3) := by decide +kernel
theorem dX5_advance_86 : decode cX5_advance 86 = .ok (.aload_n 0, 1) := by decide +kernel
theorem dX5_advance_87 : decode cX5_advance 87 = .ok (.lconst 0, 1) := by decide +kernel
theorem dX5_advance_88 : decode cX5_advance 88 = .ok (.putfield 196, 3) := by decide +kernel
theorem dX5_advance_91 : decode cX5_advance 91 = .ok (.aload_n 0, 1) := by decide +kernel
theorem dX5_advance_92 : decode cX5_advance 92 = .ok (.aload_n 0, 1) := by decide +kernel
theorem dX5_advance_93 : decode cX5_advance 93 = .ok (.getfield 193, 3) := by decide +kernel
theorem dX5_advance_96 : decode cX5_advance 96 = .ok (.iconst 2, 1) := by decide +kernel
theorem dX5_advance_97 : decode cX5_advance 97 = .ok (.if_icmp .ne 7, 3) := by decide +kernel
theorem dX5_advance_100 : decode cX5_advance 100 = .ok (.iconst 0, 1) := by decide +kernel
theorem dX5_advance_101 : decode cX5_advance 101 = .ok (.goto 4, 3) := by decide +kernel
theorem dX5_advance_104 : decode cX5_advance 104 = .ok (.iload_n 1, 1) := by decide +kernel
theorem dX5_advance_105 : decode cX5_advance 105 = .ok (.putfield 200, 3) := by decide +kernel
theorem dX5_advance_108 : decode cX5_advance 108 = .ok (.aload_n 0, 1) := by decide +kernel
theorem dX5_advance_109 : decode cX5_advance 109 = .ok (.getfield 193, 3) := by decide +kernel
theorem dX5_advance_112 : decode cX5_advance 112 = .ok (.iconst 3, 1) := by decide +kernel
theorem dX5_advance_113 : decode cX5_advance 113 = .ok (.if_icmp .ne 13, 3) := by decide +kernel
theorem dX5_advance_116 : decode cX5_advance 116 = .ok (.aload_n 0, 1) := by decide +kernel
theorem dX5_advance_117 : decode cX5_advance 117 = .ok (.dup, 1) := by decide +kernel
theorem dX5_advance_118 : decode cX5_advance 118 = .ok (.getfield 178, 3) := by decide +kernel
theorem dX5_advance_121 : decode cX5_advance 121 = .ok (.iconst 1, 1) := by decide +kernel
theorem dX5_advance_122 : decode cX5_advance 122 = .ok (.iadd, 1) := by decide +kernel
theorem dX5_advance_123 : decode cX5_advance 123 = .ok (.putfield 178, 3) := by decide +kernel
theorem dX5_advance_126 : decode cX5_advance 126 = .ok (.aload_n 0, 1) := by decide +kernel
theorem dX5_advance_127 : decode cX5_advance 127 = .ok (.getfield 193, 3) := by decide +kernel
theorem dX5_advance_130 : decode cX5_advance 130 = .ok (.iconst 1, 1) := by decide +kernel
theorem dX5_advance_131 : decode cX5_advance 131 = .ok (.if_icmp .ne 76, 3) := by decide +kernel
theorem dX5_advance_134 : decode cX5_advance 134 = .ok (.aload_n 0, 1) := by decide +kernel
theorem dX5_advance_135 : decode cX5_advance 135 = .ok (.aload_n 0, 1) := by decide +kernel
theorem dX5_advance_136 : decode cX5_advance 136 = .ok (.getfield 178, 3) := by decide +kernel
theorem dX5_advance_139 : decode cX5_advance 139 = .ok (.invokevirtual 184, 3) := by decide +kernel
theorem dX5_advance_142 : decode cX5_advance 142 = .ok (.invokestatic 187, 3) := by decide +kernel
theorem dX5_advance_145 : decode cX5_advance 145 = .ok (.ifCond .eq 62, 3) := by decide +kernel
theorem dX5_advance_148 : decode cX5_advance 148 = .ok (.aload_n 0, 1) := by decide +kernel
theorem dX5_advance_149 : decode cX5_advance 149 = .ok (.aload_n 0, 1) := by decide +kernel
theorem dX5_advance_150 : decode cX5_advance 150 = .ok (.getfield 178, 3) := by decide +kernel
theorem dX5_advance_153 : decode cX5_advance 153 = .ok (.aload_n 0, 1) := by decide +kernel
theorem dX5_advance_154 : decode cX5_advance 154 = .ok (.getfield 181, 3) := by decide +kernel
theorem dX5_advance_157 : decode cX5_advance 157 = .ok (.isub, 1) := by decide +kernel
theorem dX5_advance_158 : decode cX5_advance 158 = .ok (.bipush 12, 2) := by decide +kernel
theorem dX5_advance_160 : decode cX5_advance 160 = .ok (.if_icmp .ge 28, 3) := by decide +kernel
theorem dX5_advance_163 : decode cX5_advance 163 = .ok (.ldc2_w 203, 3) := by decide +kernel
theorem dX5_advance_166 : decode cX5_advance 166 = .ok (.aload_n 0, 1) := by decide +kernel
theorem dX5_advance_167 : decode cX5_advance 167 = .ok (.getfield 196, 3) := by decide +kernel
theorem dX5_advance_170 : decode cX5_advance 170 = .ok (.lmul, 1) := by decide +kernel
theorem dX5_advance_171 : decode cX5_advance 171 = .ok (.aload_n 0, 1) := by decide +kernel
theorem dX5_advance_172 : decode cX5_advance 172 = .ok (.aload_n 0, 1) := by decide +kernel
theorem dX5_advance_173 : decode cX5_advance 173 = .ok (.getfield 178, 3) := by decide +kernel
theorem dX5_advance_176 : decode cX5_advance 176 = .ok (.invokevirtual 184, 3) := by decide +kernel
theorem dX5_advance_179 : decode cX5_advance 179 = .ok (.i2l, 1) := by decide +kernel
theorem dX5_advance_180 : decode cX5_advance 180 = .ok (.ladd, 1) := by decide +kernel
theorem dX5_advance_181 : decode cX5_advance 181 = .ok (.ldc2_w 205, 3) := by decide +kernel
theorem dX5_advance_184 : decode cX5_advance 184 = .ok (.lsub, 1) := by decide +kernel
theorem dX5_advance_185 : decode cX5_advance 185 = .ok (.goto 6, 3) := by decide +kernel
theorem dX5_advance_188 : decode cX5_advance 188 = .ok (.ldc2_w 207, 3) := by decide +kernel
theorem dX5_advance_191 : decode cX5_advance 191 = .ok (.putfield 196, 3) := by decide +kernel
theorem dX5_advance_194 : decode cX5_advance 194 = .ok (.aload_n 0, 1) := by decide +kernel
theorem dX5_advance_195 : decode cX5_advance 195 = .ok (.dup, 1) := by decide +kernel
theorem dX5_advance_196 : decode cX5_advance 196 = .ok (.getfield 178, 3) := by decide +kernel
theorem dX5_advance_199 : decode cX5_advance 199 = .ok (.iconst 1, 1) := by decide +kernel
theorem dX5_advance_200 : decode cX5_advance 200 = .ok (.iadd, 1) := by decide +kernel
theorem dX5_advance_201 : decode cX5_advance 201 = .ok (.putfield 178, 3) := by decide +kernel
theorem dX5_advance_204 : decode cX5_advance 204 = .ok (.goto (-78), 3) := by decide +kernel
theorem dX5_advance_207 : decode cX5_advance 207 = .ok (.aload_n 0, 1) := by decide +kernel
theorem dX5_advance_208 : decode cX5_advance 208 = .ok (.getfield 193, 3) := by decide +kernel
theorem dX5_advance_211 : decode cX5_advance 211 = .ok (.iconst 2, 1) := by decide +kernel
theorem dX5_advance_212 : decode cX5_advance 212 = .ok (.if_icmp .ne 69, 3) := by decide +kernel
theorem dX5_advance_215 : decode cX5_advance 215 = .ok (.aload_n 0, 1) := by decide +kernel
theorem dX5_advance_216 : decode cX5_advance 216 = .ok (.aload_n 0, 1) := by decide +kernel
theorem dX5_advance_217 : decode cX5_advance 217 = .ok (.getfield 178, 3) := by decide +kernel
theorem dX5_advance_220 : decode cX5_advance 220 = .ok (.invokevirtual 184, 3) := by decide +kernel
theorem dX5_advance_223 : decode cX5_advance 223 = .ok (.invokestatic 190, 3) := by decide +kernel
theorem dX5_advance_226 : decode cX5_advance 226 = .ok (.ifCond .eq 55, 3) := by decide +kernel
theorem dX5_advance_229 : decode cX5_advance 229 = .ok (.aload_n 0, 1) := by decide +kernel
theorem dX5_advance_230 : decode cX5_advance 230 = .ok (.aload_n 0, 1) := by decide +kernel
theorem dX5_advance_231 : decode cX5_advance 231 = .ok (.getfield 200, 3) := by decide +kernel
theorem dX5_advance_234 : decode cX5_advance 234 = .ok (.sipush 999, 3) := by decide +kernel
theorem dX5_advance_237 : decode cX5_advance 237 = .ok (.if_icmp .le 9, 3) := by decide +kernel
theorem dX5_advance_240 : decode cX5_advance 240 = .ok (.sipush 10000, 3) := by decide +kernel
theorem dX5_advance_243 : decode cX5_advance 243 = .ok (.goto 22, 3) := by decide +kernel
theorem dX5_advance_246 : decode cX5_advance 246 = .ok (.bipush 10, 2) := by decide +kernel
theorem dX5_advance_248 : decode cX5_advance 248 = .ok (.aload_n 0, 1) := by decide +kernel
theorem dX5_advance_249 : decode cX5_advance 249 = .ok (.getfield 200, 3) := by decide +kernel
theorem dX5_advance_252 : decode cX5_advance 252 = .ok (.imul, 1) := by decide +kernel
theorem dX5_advance_253 : decode cX5_advance 253 = .ok (.aload_n 0, 1) := by decide +kernel
theorem dX5_advance_254 : decode cX5_advance 254 = .ok (.aload_n 0, 1) := by decide +kernel
theorem dX5_advance_255 : decode cX5_advance 255 = .ok (.getfield 178, 3) := by decide +kernel
theorem dX5_advance_258 : decode cX5_advance 258 = .ok (.invokevirtual 184, 3) := by decide +kernel
theorem dX5_advance_261 : decode cX5_advance 261 = .ok (.iadd, 1) := by decide +kernel
theorem dX5_advance_262 : decode cX5_advance 262 = .ok (.bipush 48, 2) := by decide +kernel
theorem dX5_advance_264 : decode cX5_advance 264 = .ok (.isub, 1) := by decide +kernel
theorem dX5_advance_265 : decode cX5_advance 265 = .ok (.putfield 200, 3) := by decide +kernel
theorem dX5_advance_268 : decode cX5_advance 268 = .ok (.aload_n 0, 1) := by decide +kernel
theorem dX5_advance_269 : decode cX5_advance 269 = .ok (.dup, 1) := by decide +kernel
theorem dX5_advance_270 : decode cX5_advance 270 = .ok (.getfield 178, 3) := by decide +kernel
theorem dX5_advance_273 : decode cX5_advance 273 = .ok (.iconst 1, 1) := by decide +kernel
theorem dX5_advance_274 : decode cX5_advance 274 = .ok (.iadd, 1) := by decide +kernel
theorem dX5_advance_275 : decode cX5_advance 275 = .ok (.putfield 178, 3) := by decide +kernel
theorem dX5_advance_278 : decode cX5_advance 278 = .ok (.goto (-71), 3) := by decide +kernel
theorem dX5_advance_281 : decode cX5_advance 281 = .ok (.return_, 1) := by decide +kernel
theorem dX5_isWord_0 : decode cX5_isWord 0 = .ok (.aload_n 0, 1) := by decide +kernel
theorem dX5_isWord_1 : decode cX5_isWord 1 = .ok (.getfield 193, 3) := by decide +kernel
theorem dX5_isWord_4 : decode cX5_isWord 4 = .ok (.iconst 1, 1) := by decide +kernel
theorem dX5_isWord_5 : decode cX5_isWord 5 = .ok (.if_icmp .ne 16, 3) := by decide +kernel
theorem dX5_isWord_8 : decode cX5_isWord 8 = .ok (.aload_n 0, 1) := by decide +kernel
theorem dX5_isWord_9 : decode cX5_isWord 9 = .ok (.getfield 196, 3) := by decide +kernel
theorem dX5_isWord_12 : decode cX5_isWord 12 = .ok (.lload_n 1, 1) := by decide +kernel
theorem dX5_isWord_13 : decode cX5_isWord 13 = .ok (.lcmp, 1) := by decide +kernel
theorem dX5_isWord_14 : decode cX5_isWord 14 = .ok (.ifCond .ne 7, 3) := by decide +kernel
theorem dX5_isWord_17 : decode cX5_isWord 17 = .ok (.iconst 1, 1) := by decide +kernel
theorem dX5_isWord_18 : decode cX5_isWord 18 = .ok (.goto 4, 3) := by decide +kernel
theorem dX5_isWord_21 : decode cX5_isWord 21 = .ok (.iconst 0, 1) := by decide +kernel
theorem dX5_isWord_22 : decode cX5_isWord 22 = .ok (.ireturn, 1) := by decide +kernel
theorem dX5_kindHere_0 : decode cX5_kindHere 0 = .ok (.aload_n 0, 1) := by decide +kernel
theorem dX5_kindHere_1 : decode cX5_kindHere 1 = .ok (.ldc2_w 209, 3) := by decide +kernel
theorem dX5_kindHere_4 : decode cX5_kindHere 4 = .ok (.invokevirtual 211, 3) := by decide +kernel
theorem dX5_kindHere_7 : decode cX5_kindHere 7 = .ok (.ifCond .eq 7, 3) := by decide +kernel
theorem dX5_kindHere_10 : decode cX5_kindHere 10 = .ok (.iconst 0, 1) := by decide +kernel
theorem dX5_kindHere_11 : decode cX5_kindHere 11 = .ok (.goto 74, 3) := by decide +kernel
theorem dX5_kindHere_14 : decode cX5_kindHere 14 = .ok (.aload_n 0, 1) := by decide +kernel
theorem dX5_kindHere_15 : decode cX5_kindHere 15 = .ok (.ldc2_w 215, 3) := by decide +kernel
theorem dX5_kindHere_18 : decode cX5_kindHere 18 = .ok (.invokevirtual 211, 3) := by decide +kernel
theorem dX5_kindHere_21 : decode cX5_kindHere 21 = .ok (.ifCond .eq 7, 3) := by decide +kernel
theorem dX5_kindHere_24 : decode cX5_kindHere 24 = .ok (.iconst 1, 1) := by decide +kernel
theorem dX5_kindHere_25 : decode cX5_kindHere 25 = .ok (.goto 60, 3) := by decide +kernel
theorem dX5_kindHere_28 : decode cX5_kindHere 28 = .ok (.aload_n 0, 1) := by decide +kernel
theorem dX5_kindHere_29 : decode cX5_kindHere 29 = .ok (.ldc2_w 217, 3) := by decide +kernel
theorem dX5_kindHere_32 : decode cX5_kindHere 32 = .ok (.invokevirtual 211, 3) := by decide +kernel
theorem dX5_kindHere_35 : decode cX5_kindHere 35 = .ok (.ifCond .eq 7, 3) := by decide +kernel
theorem dX5_kindHere_38 : decode cX5_kindHere 38 = .ok (.iconst 2, 1) := by decide +kernel
theorem dX5_kindHere_39 : decode cX5_kindHere 39 = .ok (.goto 46, 3) := by decide +kernel
theorem dX5_kindHere_42 : decode cX5_kindHere 42 = .ok (.aload_n 0, 1) := by decide +kernel
theorem dX5_kindHere_43 : decode cX5_kindHere 43 = .ok (.ldc2_w 219, 3) := by decide +kernel
theorem dX5_kindHere_46 : decode cX5_kindHere 46 = .ok (.invokevirtual 211, 3) := by decide +kernel
theorem dX5_kindHere_49 : decode cX5_kindHere 49 = .ok (.ifCond .eq 7, 3) := by decide +kernel
theorem dX5_kindHere_52 : decode cX5_kindHere 52 = .ok (.iconst 3, 1) := by decide +kernel
theorem dX5_kindHere_53 : decode cX5_kindHere 53 = .ok (.goto 32, 3) := by decide +kernel
theorem dX5_kindHere_56 : decode cX5_kindHere 56 = .ok (.aload_n 0, 1) := by decide +kernel
theorem dX5_kindHere_57 : decode cX5_kindHere 57 = .ok (.ldc2_w 221, 3) := by decide +kernel
theorem dX5_kindHere_60 : decode cX5_kindHere 60 = .ok (.invokevirtual 211, 3) := by decide +kernel
theorem dX5_kindHere_63 : decode cX5_kindHere 63 = .ok (.ifCond .eq 7, 3) := by decide +kernel
theorem dX5_kindHere_66 : decode cX5_kindHere 66 = .ok (.iconst 4, 1) := by decide +kernel
theorem dX5_kindHere_67 : decode cX5_kindHere 67 = .ok (.goto 18, 3) := by decide +kernel
theorem dX5_kindHere_70 : decode cX5_kindHere 70 = .ok (.aload_n 0, 1) := by decide +kernel
theorem dX5_kindHere_71 : decode cX5_kindHere 71 = .ok (.ldc2_w 223, 3) := by decide +kernel
theorem dX5_kindHere_74 : decode cX5_kindHere 74 = .ok (.invokevirtual 211, 3) := by decide +kernel
theorem dX5_kindHere_77 : decode cX5_kindHere 77 = .ok (.ifCond .eq 7, 3) := by decide +kernel
theorem dX5_kindHere_80 : decode cX5_kindHere 80 = .ok (.iconst 5, 1) := by decide +kernel
theorem dX5_kindHere_81 : decode cX5_kindHere 81 = .ok (.goto 4, 3) := by decide +kernel
theorem dX5_kindHere_84 : decode cX5_kindHere 84 = .ok (.iconst (-1), 1) := by decide +kernel
theorem dX5_kindHere_85 : decode cX5_kindHere 85 = .ok (.ireturn, 1) := by decide +kernel
theorem dX5_wantNumber_0 : decode cX5_wantNumber 0 = .ok (.aload_n 0, 1) := by decide +kernel
theorem dX5_wantNumber_1 : decode cX5_wantNumber 1 = .ok (.getfield 200, 3) := by decide +kernel
theorem dX5_wantNumber_4 : decode cX5_wantNumber 4 = .ok (.istore_n 3, 1) := by decide +kernel
theorem dX5_wantNumber_5 : decode cX5_wantNumber 5 = .ok (.aload_n 0, 1) := by decide +kernel
theorem dX5_wantNumber_6 : decode cX5_wantNumber 6 = .ok (.aload_n 0, 1) := by decide +kernel
theorem dX5_wantNumber_7 : decode cX5_wantNumber 7 = .ok (.getfield 225, 3) := by decide +kernel
theorem dX5_wantNumber_10 : decode cX5_wantNumber 10 = .ok (.ifCond .eq 24, 3) := by decide +kernel
theorem dX5_wantNumber_13 : decode cX5_wantNumber 13 = .ok (.aload_n 0, 1) := by decide +kernel
theorem dX5_wantNumber_14 : decode cX5_wantNumber 14 = .ok (.getfield 193, 3) := by decide +kernel
theorem dX5_wantNumber_17 : decode cX5_wantNumber 17 = .ok (.iconst 2, 1) := by decide +kernel
theorem dX5_wantNumber_18 : decode cX5_wantNumber 18 = .ok (.if_icmp .ne 16, 3) := by decide +kernel
theorem dX5_wantNumber_21 : decode cX5_wantNumber 21 = .ok (.iload_n 3, 1) := by decide +kernel
theorem dX5_wantNumber_22 : decode cX5_wantNumber 22 = .ok (.iload_n 1, 1) := by decide +kernel
theorem dX5_wantNumber_23 : decode cX5_wantNumber 23 = .ok (.iload_n 2, 1) := by decide +kernel
theorem dX5_wantNumber_24 : decode cX5_wantNumber 24 = .ok (.invokestatic 49, 3) := by decide +kernel
theorem dX5_wantNumber_27 : decode cX5_wantNumber 27 = .ok (.ifCond .eq 7, 3) := by decide +kernel
theorem dX5_wantNumber_30 : decode cX5_wantNumber 30 = .ok (.iconst 1, 1) := by decide +kernel
theorem dX5_wantNumber_31 : decode cX5_wantNumber 31 = .ok (.goto 4, 3) := by decide +kernel
theorem dX5_wantNumber_34 : decode cX5_wantNumber 34 = .ok (.iconst 0, 1) := by decide +kernel
theorem dX5_wantNumber_35 : decode cX5_wantNumber 35 = .ok (.putfield 225, 3) := by decide +kernel
theorem dX5_wantNumber_38 : decode cX5_wantNumber 38 = .ok (.aload_n 0, 1) := by decide +kernel
theorem dX5_wantNumber_39 : decode cX5_wantNumber 39 = .ok (.getfield 225, 3) := by decide +kernel
theorem dX5_wantNumber_42 : decode cX5_wantNumber 42 = .ok (.ifCond .eq 7, 3) := by decide +kernel
theorem dX5_wantNumber_45 : decode cX5_wantNumber 45 = .ok (.aload_n 0, 1) := by decide +kernel
theorem dX5_wantNumber_46 : decode cX5_wantNumber 46 = .ok (.invokevirtual 229, 3) := by decide +kernel
theorem dX5_wantNumber_49 : decode cX5_wantNumber 49 = .ok (.iload_n 3, 1) := by decide +kernel
theorem dX5_wantNumber_50 : decode cX5_wantNumber 50 = .ok (.ireturn, 1) := by decide +kernel
theorem dX5_mayWant_0 : decode cX5_mayWant 0 = .ok (.aload_n 0, 1) := by decide +kernel
theorem dX5_mayWant_1 : decode cX5_mayWant 1 = .ok (.getfield 225, 3) := by decide +kernel
theorem dX5_mayWant_4 : decode cX5_mayWant 4 = .ok (.ifCond .eq 11, 3) := by decide +kernel
theorem dX5_mayWant_7 : decode cX5_mayWant 7 = .ok (.aload_n 0, 1) := by decide +kernel
theorem dX5_mayWant_8 : decode cX5_mayWant 8 = .ok (.lload_n 1, 1) := by decide +kernel
theorem dX5_mayWant_9 : decode cX5_mayWant 9 = .ok (.invokevirtual 211, 3) := by decide +kernel
theorem dX5_mayWant_12 : decode cX5_mayWant 12 = .ok (.ifCond .ne 6, 3) := by decide +kernel
theorem dX5_mayWant_15 : decode cX5_mayWant 15 = .ok (.iload 5, 2) := by decide +kernel
theorem dX5_mayWant_17 : decode cX5_mayWant 17 = .ok (.ireturn, 1) := by decide +kernel
theorem dX5_mayWant_18 : decode cX5_mayWant 18 = .ok (.aload_n 0, 1) := by decide +kernel
theorem dX5_mayWant_19 : decode cX5_mayWant 19 = .ok (.invokevirtual 229, 3) := by decide +kernel
theorem dX5_mayWant_22 : decode cX5_mayWant 22 = .ok (.aload_n 0, 1) := by decide +kernel
theorem dX5_mayWant_23 : decode cX5_mayWant 23 = .ok (.iload_n 3, 1) := by decide +kernel
theorem dX5_mayWant_24 : decode cX5_mayWant 24 = .ok (.iload 4, 2) := by decide +kernel
theorem dX5_mayWant_26 : decode cX5_mayWant 26 = .ok (.invokevirtual 232, 3) := by decide +kernel
theorem dX5_mayWant_29 : decode cX5_mayWant 29 = .ok (.ireturn, 1) := by decide +kernel
theorem dX5_mayMemories_0 : decode cX5_mayMemories 0 = .ok (.aload_n 0, 1) := by decide +kernel
theorem dX5_mayMemories_1 : decode cX5_mayMemories 1 = .ok (.getfield 225, 3) := by decide +kernel
theorem dX5_mayMemories_4 : decode cX5_mayMemories 4 = .ok (.ifCond .eq 11, 3) := by decide +kernel
theorem dX5_mayMemories_7 : decode cX5_mayMemories 7 = .ok (.aload_n 0, 1) := by decide +kernel
theorem dX5_mayMemories_8 : decode cX5_mayMemories 8 = .ok (.lload_n 1, 1) := by decide +kernel
theorem dX5_mayMemories_9 : decode cX5_mayMemories 9 = .ok (.invokevirtual 211, 3) := by decide +kernel
theorem dX5_mayMemories_12 : decode cX5_mayMemories 12 = .ok (.ifCond .ne 5, 3) := by decide +kernel
theorem dX5_mayMemories_15 : decode cX5_mayMemories 15 = .ok (.iconst (-1), 1) := by decide +kernel
theorem dX5_mayMemories_16 : decode cX5_mayMemories 16 = .ok (.ireturn, 1) := by decide +kernel
theorem dX5_mayMemories_17 : decode cX5_mayMemories 17 = .ok (.aload_n 0, 1) := by decide +kernel
theorem dX5_mayMemories_18 : decode cX5_mayMemories 18 = .ok (.invokevirtual 229, 3) := by decide +kernel
theorem dX5_mayMemories_21 : decode cX5_mayMemories 21 = .ok (.iconst 0, 1) := by decide +kernel
theorem dX5_mayMemories_22 : decode cX5_mayMemories 22 = .ok (.istore_n 3, 1) := by decide +kernel
theorem dX5_mayMemories_23 : decode cX5_mayMemories 23 = .ok (.iconst 0, 1) := by decide +kernel
theorem dX5_mayMemories_24 : decode cX5_mayMemories 24 = .ok (.istore 4, 2) := by decide +kernel
theorem dX5_mayMemories_26 : decode cX5_mayMemories 26 = .ok (.iload 4, 2) := by decide +kernel
theorem dX5_mayMemories_28 : decode cX5_mayMemories 28 = .ok (.iconst 4, 1) := by decide +kernel
theorem dX5_mayMemories_29 : decode cX5_mayMemories 29 = .ok (.if_icmp .ge 56, 3) := by decide +kernel
theorem dX5_mayMemories_32 : decode cX5_mayMemories 32 = .ok (.aload_n 0, 1) := by decide +kernel
theorem dX5_mayMemories_33 : decode cX5_mayMemories 33 = .ok (.getfield 225, 3) := by decide +kernel
theorem dX5_mayMemories_36 : decode cX5_mayMemories 36 = .ok (.ifCond .eq 49, 3) := by decide +kernel
theorem dX5_mayMemories_39 : decode cX5_mayMemories 39 = .ok (.iload 4, 2) := by decide +kernel
theorem dX5_mayMemories_41 : decode cX5_mayMemories 41 = .ok (.ifCond .eq 11, 3) := by decide +kernel
theorem dX5_mayMemories_44 : decode cX5_mayMemories 44 = .ok (.aload_n 0, 1) := by decide +kernel
theorem dX5_mayMemories_45 : decode cX5_mayMemories 45 = .ok (.getfield 193, 3) := by decide +kernel
theorem dX5_mayMemories_48 : decode cX5_mayMemories 48 = .ok (.iconst 2, 1) := by decide +kernel
theorem dX5_mayMemories_49 : decode cX5_mayMemories 49 = .ok (.if_icmp .ne 36, 3) := by decide +kernel
theorem dX5_mayMemories_52 : decode cX5_mayMemories 52 = .ok (.aload_n 0, 1) := by decide +kernel
theorem dX5_mayMemories_53 : decode cX5_mayMemories 53 = .ok (.iconst 0, 1) := by decide +kernel
theorem dX5_mayMemories_54 : decode cX5_mayMemories 54 = .ok (.bipush 9, 2) := by decide +kernel
theorem dX5_mayMemories_56 : decode cX5_mayMemories 56 = .ok (.invokevirtual 232, 3) := by decide +kernel
theorem dX5_mayMemories_59 : decode cX5_mayMemories 59 = .ok (.istore 5, 2) := by decide +kernel
theorem dX5_mayMemories_61 : decode cX5_mayMemories 61 = .ok (.iload_n 3, 1) := by decide +kernel
theorem dX5_mayMemories_62 : decode cX5_mayMemories 62 = .ok (.aload_n 0, 1) := by decide +kernel
theorem dX5_mayMemories_63 : decode cX5_mayMemories 63 = .ok (.getfield 225, 3) := by decide +kernel
theorem dX5_mayMemories_66 : decode cX5_mayMemories 66 = .ok (.ifCond .eq 10, 3) := by decide +kernel
theorem dX5_mayMemories_69 : decode cX5_mayMemories 69 = .ok (.iconst 1, 1) := by decide +kernel
theorem dX5_mayMemories_70 : decode cX5_mayMemories 70 = .ok (.iload 5, 2) := by decide +kernel
theorem dX5_mayMemories_72 : decode cX5_mayMemories 72 = .ok (.ishl, 1) := by decide +kernel
theorem dX5_mayMemories_73 : decode cX5_mayMemories 73 = .ok (.goto 4, 3) := by decide +kernel
theorem dX5_mayMemories_76 : decode cX5_mayMemories 76 = .ok (.iconst 0, 1) := by decide +kernel
theorem dX5_mayMemories_77 : decode cX5_mayMemories 77 = .ok (.ior, 1) := by decide +kernel
theorem dX5_mayMemories_78 : decode cX5_mayMemories 78 = .ok (.istore_n 3, 1) := by decide +kernel
theorem dX5_mayMemories_79 : decode cX5_mayMemories 79 = .ok (.iinc 4 1, 3) := by decide +kernel
theorem dX5_mayMemories_82 : decode cX5_mayMemories 82 = .ok (.goto (-56), 3) := by decide +kernel
theorem dX5_mayMemories_85 : decode cX5_mayMemories 85 = .ok (.iload_n 3, 1) := by decide +kernel
theorem dX5_mayMemories_86 : decode cX5_mayMemories 86 = .ok (.ireturn, 1) := by decide +kernel
theorem dX5_wantOne_0 : decode cX5_wantOne 0 = .ok (.aload_n 0, 1) := by decide +kernel
theorem dX5_wantOne_1 : decode cX5_wantOne 1 = .ok (.aload_n 0, 1) := by decide +kernel
theorem dX5_wantOne_2 : decode cX5_wantOne 2 = .ok (.getfield 7, 3) := by decide +kernel
theorem dX5_wantOne_5 : decode cX5_wantOne 5 = .ok (.iconst 2, 1) := by decide +kernel
theorem dX5_wantOne_6 : decode cX5_wantOne 6 = .ok (.iaload, 1) := by decide +kernel
theorem dX5_wantOne_7 : decode cX5_wantOne 7 = .ok (.bipush 8, 2) := by decide +kernel
theorem dX5_wantOne_9 : decode cX5_wantOne 9 = .ok (.if_icmp .ge 7, 3) := by decide +kernel
theorem dX5_wantOne_12 : decode cX5_wantOne 12 = .ok (.iconst 1, 1) := by decide +kernel
theorem dX5_wantOne_13 : decode cX5_wantOne 13 = .ok (.goto 4, 3) := by decide +kernel
theorem dX5_wantOne_16 : decode cX5_wantOne 16 = .ok (.iconst 0, 1) := by decide +kernel
theorem dX5_wantOne_17 : decode cX5_wantOne 17 = .ok (.putfield 225, 3) := by decide +kernel
theorem dX5_wantOne_20 : decode cX5_wantOne 20 = .ok (.aload_n 0, 1) := by decide +kernel
theorem dX5_wantOne_21 : decode cX5_wantOne 21 = .ok (.getfield 225, 3) := by decide +kernel
theorem dX5_wantOne_24 : decode cX5_wantOne 24 = .ok (.ifCond .ne 4, 3) := by decide +kernel
theorem dX5_wantOne_27 : decode cX5_wantOne 27 = .ok (.return_, 1) := by decide +kernel
theorem dX5_wantOne_28 : decode cX5_wantOne 28 = .ok (.aload_n 0, 1) := by decide +kernel
theorem dX5_wantOne_29 : decode cX5_wantOne 29 = .ok (.invokevirtual 229, 3) := by decide +kernel
theorem dX5_wantOne_32 : decode cX5_wantOne 32 = .ok (.aload_n 0, 1) := by decide +kernel
theorem dX5_wantOne_33 : decode cX5_wantOne 33 = .ok (.ldc2_w 235, 3) := by decide +kernel
theorem dX5_wantOne_36 : decode cX5_wantOne 36 = .ok (.invokevirtual 237, 3) := by decide +kernel
theorem dX5_wantOne_39 : decode cX5_wantOne 39 = .ok (.istore_n 2, 1) := by decide +kernel
theorem dX5_wantOne_40 : decode cX5_wantOne 40 = .ok (.aload_n 0, 1) := by decide +kernel
theorem dX5_wantOne_41 : decode cX5_wantOne 41 = .ok (.ldc2_w 241, 3) := by decide +kernel
theorem dX5_wantOne_44 : decode cX5_wantOne 44 = .ok (.iconst 0, 1) := by decide +kernel
theorem dX5_wantOne_45 : decode cX5_wantOne 45 = .ok (.bipush 99, 2) := by decide +kernel
theorem dX5_wantOne_47 : decode cX5_wantOne 47 = .ok (.iconst 0, 1) := by decide +kernel
theorem dX5_wantOne_48 : decode cX5_wantOne 48 = .ok (.invokevirtual 243, 3) := by decide +kernel
theorem dX5_wantOne_51 : decode cX5_wantOne 51 = .ok (.istore_n 3, 1) := by decide +kernel
theorem dX5_wantOne_52 : decode cX5_wantOne 52 = .ok (.aload_n 0, 1) := by decide +kernel
theorem dX5_wantOne_53 : decode cX5_wantOne 53 = .ok (.getfield 225, 3) := by decide +kernel
theorem dX5_wantOne_56 : decode cX5_wantOne 56 = .ok (.ifCond .eq 18, 3) := by decide +kernel
theorem dX5_wantOne_59 : decode cX5_wantOne 59 = .ok (.aload_n 0, 1) := by decide +kernel
theorem dX5_wantOne_60 : decode cX5_wantOne 60 = .ok (.iload_n 1, 1) := by decide +kernel
theorem dX5_wantOne_61 : decode cX5_wantOne 61 = .ok (.iload_n 2, 1) := by decide +kernel
theorem dX5_wantOne_62 : decode cX5_wantOne 62 = .ok (.ifCond .ge 7, 3) := by decide +kernel
theorem dX5_wantOne_65 : decode cX5_wantOne 65 = .ok (.iconst 0, 1) := by decide +kernel
theorem dX5_wantOne_66 : decode cX5_wantOne 66 = .ok (.goto 4, 3) := by decide +kernel
theorem dX5_wantOne_69 : decode cX5_wantOne 69 = .ok (.iload_n 2, 1) := by decide +kernel
theorem dX5_wantOne_70 : decode cX5_wantOne 70 = .ok (.iload_n 3, 1) := by decide +kernel
theorem dX5_wantOne_71 : decode cX5_wantOne 71 = .ok (.invokevirtual 100, 3) := by decide +kernel
theorem dX5_wantOne_74 : decode cX5_wantOne 74 = .ok (.return_, 1) := by decide +kernel
theorem dX5_wantRoom_0 : decode cX5_wantRoom 0 = .ok (.aload_n 0, 1) := by decide +kernel
theorem dX5_wantRoom_1 : decode cX5_wantRoom 1 = .ok (.invokevirtual 229, 3) := by decide +kernel
theorem dX5_wantRoom_4 : decode cX5_wantRoom 4 = .ok (.aload_n 0, 1) := by decide +kernel
theorem dX5_wantRoom_5 : decode cX5_wantRoom 5 = .ok (.iconst 0, 1) := by decide +kernel
theorem dX5_wantRoom_6 : decode cX5_wantRoom 6 = .ok (.bipush 7, 2) := by decide +kernel
theorem dX5_wantRoom_8 : decode cX5_wantRoom 8 = .ok (.invokevirtual 232, 3) := by decide +kernel
theorem dX5_wantRoom_11 : decode cX5_wantRoom 11 = .ok (.istore_n 1, 1) := by decide +kernel
theorem dX5_wantRoom_12 : decode cX5_wantRoom 12 = .ok (.aload_n 0, 1) := by decide +kernel
theorem dX5_wantRoom_13 : decode cX5_wantRoom 13 = .ok (.getfield 225, 3) := by decide +kernel
theorem dX5_wantRoom_16 : decode cX5_wantRoom 16 = .ok (.ifCond .ne 4, 3) := by decide +kernel
theorem dX5_wantRoom_19 : decode cX5_wantRoom 19 = .ok (.return_, 1) := by decide +kernel
theorem dX5_wantRoom_20 : decode cX5_wantRoom 20 = .ok (.aload_n 0, 1) := by decide +kernel
theorem dX5_wantRoom_21 : decode cX5_wantRoom 21 = .ok (.ldc2_w 247, 3) := by decide +kernel
theorem dX5_wantRoom_24 : decode cX5_wantRoom 24 = .ok (.iconst 0, 1) := by decide +kernel
theorem dX5_wantRoom_25 : decode cX5_wantRoom 25 = .ok (.bipush 99, 2) := by decide +kernel
theorem dX5_wantRoom_27 : decode cX5_wantRoom 27 = .ok (.aload_n 0, 1) := by decide +kernel
theorem dX5_wantRoom_28 : decode cX5_wantRoom 28 = .ok (.iload_n 1, 1) := by decide +kernel
theorem dX5_wantRoom_29 : decode cX5_wantRoom 29 = .ok (.iconst 0, 1) := by decide +kernel
theorem dX5_wantRoom_30 : decode cX5_wantRoom 30 = .ok (.invokevirtual 71, 3) := by decide +kernel
theorem dX5_wantRoom_33 : decode cX5_wantRoom 33 = .ok (.invokevirtual 243, 3) := by decide +kernel
theorem dX5_wantRoom_36 : decode cX5_wantRoom 36 = .ok (.istore_n 2, 1) := by decide +kernel
theorem dX5_wantRoom_37 : decode cX5_wantRoom 37 = .ok (.aload_n 0, 1) := by decide +kernel
theorem dX5_wantRoom_38 : decode cX5_wantRoom 38 = .ok (.ldc2_w 249, 3) := by decide +kernel
theorem dX5_wantRoom_41 : decode cX5_wantRoom 41 = .ok (.invokevirtual 237, 3) := by decide +kernel
theorem dX5_wantRoom_44 : decode cX5_wantRoom 44 = .ok (.istore_n 3, 1) := by decide +kernel
theorem dX5_wantRoom_45 : decode cX5_wantRoom 45 = .ok (.aload_n 0, 1) := by decide +kernel
theorem dX5_wantRoom_46 : decode cX5_wantRoom 46 = .ok (.getfield 225, 3) := by decide +kernel
theorem dX5_wantRoom_49 : decode cX5_wantRoom 49 = .ok (.ifCond .eq 30, 3) := by decide +kernel
theorem dX5_wantRoom_52 : decode cX5_wantRoom 52 = .ok (.aload_n 0, 1) := by decide +kernel
theorem dX5_wantRoom_53 : decode cX5_wantRoom 53 = .ok (.iload_n 1, 1) := by decide +kernel
theorem dX5_wantRoom_54 : decode cX5_wantRoom 54 = .ok (.iconst 0, 1) := by decide +kernel
theorem dX5_wantRoom_55 : decode cX5_wantRoom 55 = .ok (.iload_n 2, 1) := by decide +kernel
theorem dX5_wantRoom_56 : decode cX5_wantRoom 56 = .ok (.invokevirtual 44, 3) := by decide +kernel
theorem dX5_wantRoom_59 : decode cX5_wantRoom 59 = .ok (.aload_n 0, 1) := by decide +kernel
theorem dX5_wantRoom_60 : decode cX5_wantRoom 60 = .ok (.iload_n 1, 1) := by decide +kernel
theorem dX5_wantRoom_61 : decode cX5_wantRoom 61 = .ok (.iconst 1, 1) := by decide +kernel
theorem dX5_wantRoom_62 : decode cX5_wantRoom 62 = .ok (.iload_n 3, 1) := by decide +kernel
theorem dX5_wantRoom_63 : decode cX5_wantRoom 63 = .ok (.ifCond .ge 12, 3) := by decide +kernel
theorem dX5_wantRoom_66 : decode cX5_wantRoom 66 = .ok (.aload_n 0, 1) := by decide +kernel
theorem dX5_wantRoom_67 : decode cX5_wantRoom 67 = .ok (.iload_n 1, 1) := by decide +kernel
theorem dX5_wantRoom_68 : decode cX5_wantRoom 68 = .ok (.iconst 1, 1) := by decide +kernel
theorem dX5_wantRoom_69 : decode cX5_wantRoom 69 = .ok (.invokevirtual 71, 3) := by decide +kernel
theorem dX5_wantRoom_72 : decode cX5_wantRoom 72 = .ok (.goto 4, 3) := by decide +kernel
theorem dX5_wantRoom_75 : decode cX5_wantRoom 75 = .ok (.iload_n 3, 1) := by decide +kernel
theorem dX5_wantRoom_76 : decode cX5_wantRoom 76 = .ok (.invokevirtual 44, 3) := by decide +kernel
theorem dX5_wantRoom_79 : decode cX5_wantRoom 79 = .ok (.return_, 1) := by decide +kernel
theorem dX5_wantItem_0 : decode cX5_wantItem 0 = .ok (.aload_n 0, 1) := by decide +kernel
theorem dX5_wantItem_1 : decode cX5_wantItem 1 = .ok (.invokevirtual 251, 3) := by decide +kernel
theorem dX5_wantItem_4 : decode cX5_wantItem 4 = .ok (.ifCond .lt 14, 3) := by decide +kernel
theorem dX5_wantItem_7 : decode cX5_wantItem 7 = .ok (.aload_n 0, 1) := by decide +kernel
theorem dX5_wantItem_8 : decode cX5_wantItem 8 = .ok (.aload_n 0, 1) := by decide +kernel
theorem dX5_wantItem_9 : decode cX5_wantItem 9 = .ok (.invokevirtual 251, 3) := by decide +kernel
theorem dX5_wantItem_12 : decode cX5_wantItem 12 = .ok (.invokevirtual 254, 3) := by decide +kernel
theorem dX5_wantItem_15 : decode cX5_wantItem 15 = .ok (.goto 117, 3) := by decide +kernel
theorem dX5_wantItem_18 : decode cX5_wantItem 18 = .ok (.aload_n 0, 1) := by decide +kernel
theorem dX5_wantItem_19 : decode cX5_wantItem 19 = .ok (.ldc2_w 257, 3) := by decide +kernel
theorem dX5_wantItem_22 : decode cX5_wantItem 22 = .ok (.invokevirtual 211, 3) := by decide +kernel
theorem dX5_wantItem_25 : decode cX5_wantItem 25 = .ok (.ifCond .eq 10, 3) := by decide +kernel
theorem dX5_wantItem_28 : decode cX5_wantItem 28 = .ok (.aload_n 0, 1) := by decide +kernel
theorem dX5_wantItem_29 : decode cX5_wantItem 29 = .ok (.invokevirtual 259, 3) := by decide +kernel
theorem dX5_wantItem_32 : decode cX5_wantItem 32 = .ok (.goto 100, 3) := by decide +kernel
theorem dX5_wantItem_35 : decode cX5_wantItem 35 = .ok (.aload_n 0, 1) := by decide +kernel
theorem dX5_wantItem_36 : decode cX5_wantItem 36 = .ok (.ldc2_w 262, 3) := by decide +kernel
theorem dX5_wantItem_39 : decode cX5_wantItem 39 = .ok (.invokevirtual 211, 3) := by decide +kernel
theorem dX5_wantItem_42 : decode cX5_wantItem 42 = .ok (.ifCond .eq 41, 3) := by decide +kernel
theorem dX5_wantItem_45 : decode cX5_wantItem 45 = .ok (.aload_n 0, 1) := by decide +kernel
theorem dX5_wantItem_46 : decode cX5_wantItem 46 = .ok (.invokevirtual 229, 3) := by decide +kernel
theorem dX5_wantItem_49 : decode cX5_wantItem 49 = .ok (.aload_n 0, 1) := by decide +kernel
theorem dX5_wantItem_50 : decode cX5_wantItem 50 = .ok (.iconst 0, 1) := by decide +kernel
theorem dX5_wantItem_51 : decode cX5_wantItem 51 = .ok (.bipush 20, 2) := by decide +kernel
theorem dX5_wantItem_53 : decode cX5_wantItem 53 = .ok (.invokevirtual 232, 3) := by decide +kernel
theorem dX5_wantItem_56 : decode cX5_wantItem 56 = .ok (.istore_n 1, 1) := by decide +kernel
theorem dX5_wantItem_57 : decode cX5_wantItem 57 = .ok (.aload_n 0, 1) := by decide +kernel
theorem dX5_wantItem_58 : decode cX5_wantItem 58 = .ok (.getfield 7, 3) := by decide +kernel
theorem dX5_wantItem_61 : decode cX5_wantItem 61 = .ok (.iconst 1, 1) := by decide +kernel
theorem dX5_wantItem_62 : decode cX5_wantItem 62 = .ok (.aload_n 0, 1) := by decide +kernel
theorem dX5_wantItem_63 : decode cX5_wantItem 63 = .ok (.getfield 225, 3) := by decide +kernel
theorem dX5_wantItem_66 : decode cX5_wantItem 66 = .ok (.ifCond .eq 7, 3) := by decide +kernel
theorem dX5_wantItem_69 : decode cX5_wantItem 69 = .ok (.iload_n 1, 1) := by decide +kernel
theorem dX5_wantItem_70 : decode cX5_wantItem 70 = .ok (.goto 9, 3) := by decide +kernel
theorem dX5_wantItem_73 : decode cX5_wantItem 73 = .ok (.aload_n 0, 1) := by decide +kernel
theorem dX5_wantItem_74 : decode cX5_wantItem 74 = .ok (.getfield 7, 3) := by decide +kernel
theorem dX5_wantItem_77 : decode cX5_wantItem 77 = .ok (.iconst 1, 1) := by decide +kernel
theorem dX5_wantItem_78 : decode cX5_wantItem 78 = .ok (.iaload, 1) := by decide +kernel
theorem dX5_wantItem_79 : decode cX5_wantItem 79 = .ok (.iastore, 1) := by decide +kernel
theorem dX5_wantItem_80 : decode cX5_wantItem 80 = .ok (.goto 52, 3) := by decide +kernel
theorem dX5_wantItem_83 : decode cX5_wantItem 83 = .ok (.aload_n 0, 1) := by decide +kernel
theorem dX5_wantItem_84 : decode cX5_wantItem 84 = .ok (.ldc2_w 264, 3) := by decide +kernel
theorem dX5_wantItem_87 : decode cX5_wantItem 87 = .ok (.invokevirtual 211, 3) := by decide +kernel
theorem dX5_wantItem_90 : decode cX5_wantItem 90 = .ok (.ifCond .eq 37, 3) := by decide +kernel
theorem dX5_wantItem_93 : decode cX5_wantItem 93 = .ok (.aload_n 0, 1) := by decide +kernel
theorem dX5_wantItem_94 : decode cX5_wantItem 94 = .ok (.invokevirtual 229, 3) := by decide +kernel
theorem dX5_wantItem_97 : decode cX5_wantItem 97 = .ok (.aload_n 0, 1) := by decide +kernel
theorem dX5_wantItem_98 : decode cX5_wantItem 98 = .ok (.iconst 0, 1) := by decide +kernel
theorem dX5_wantItem_99 : decode cX5_wantItem 99 = .ok (.aload_n 0, 1) := by decide +kernel
theorem dX5_wantItem_100 : decode cX5_wantItem 100 = .ok (.getfield 7, 3) := by decide +kernel
theorem dX5_wantItem_103 : decode cX5_wantItem 103 = .ok (.iconst 2, 1) := by decide +kernel
theorem dX5_wantItem_104 : decode cX5_wantItem 104 = .ok (.iaload, 1) := by decide +kernel
theorem dX5_wantItem_105 : decode cX5_wantItem 105 = .ok (.iconst 1, 1) := by decide +kernel
theorem dX5_wantItem_106 : decode cX5_wantItem 106 = .ok (.isub, 1) := by decide +kernel
theorem dX5_wantItem_107 : decode cX5_wantItem 107 = .ok (.invokevirtual 232, 3) := by decide +kernel
theorem dX5_wantItem_110 : decode cX5_wantItem 110 = .ok (.istore_n 1, 1) := by decide +kernel
theorem dX5_wantItem_111 : decode cX5_wantItem 111 = .ok (.aload_n 0, 1) := by decide +kernel
theorem dX5_wantItem_112 : decode cX5_wantItem 112 = .ok (.getfield 225, 3) := by decide +kernel
theorem dX5_wantItem_115 : decode cX5_wantItem 115 = .ok (.ifCond .eq 9, 3) := by decide +kernel
theorem dX5_wantItem_118 : decode cX5_wantItem 118 = .ok (.aload_n 0, 1) := by decide +kernel
theorem dX5_wantItem_119 : decode cX5_wantItem 119 = .ok (.iload_n 1, 1) := by decide +kernel
theorem dX5_wantItem_120 : decode cX5_wantItem 120 = .ok (.invokevirtual 133, 3) := by decide +kernel
theorem dX5_wantItem_123 : decode cX5_wantItem 123 = .ok (.pop, 1) := by decide +kernel
theorem dX5_wantItem_124 : decode cX5_wantItem 124 = .ok (.goto 8, 3) := by decide +kernel
theorem dX5_wantItem_127 : decode cX5_wantItem 127 = .ok (.aload_n 0, 1) := by decide +kernel
theorem dX5_wantItem_128 : decode cX5_wantItem 128 = .ok (.iconst 0, 1) := by decide +kernel
theorem dX5_wantItem_129 : decode cX5_wantItem 129 = .ok (.putfield 225, 3) := by decide +kernel
theorem dX5_wantItem_132 : decode cX5_wantItem 132 = .ok (.return_, 1) := by decide +kernel
theorem dX5_house_0 : decode cX5_house 0 = .ok (.aload_n 0, 1) := by decide +kernel
theorem dX5_house_1 : decode cX5_house 1 = .ok (.iconst 1, 1) := by decide +kernel
theorem dX5_house_2 : decode cX5_house 2 = .ok (.aload_n 0, 1) := by decide +kernel
theorem dX5_house_3 : decode cX5_house 3 = .ok (.getfield 41, 3) := by decide +kernel
theorem dX5_house_6 : decode cX5_house 6 = .ok (.invokevirtual 147, 3) := by decide +kernel
theorem dX5_house_9 : decode cX5_house 9 = .ok (.aload_n 0, 1) := by decide +kernel
theorem dX5_house_10 : decode cX5_house 10 = .ok (.iconst 0, 1) := by decide +kernel
theorem dX5_house_11 : decode cX5_house 11 = .ok (.putfield 178, 3) := by decide +kernel
theorem dX5_house_14 : decode cX5_house 14 = .ok (.aload_n 0, 1) := by decide +kernel
theorem dX5_house_15 : decode cX5_house 15 = .ok (.iconst 1, 1) := by decide +kernel
theorem dX5_house_16 : decode cX5_house 16 = .ok (.putfield 225, 3) := by decide +kernel
theorem dX5_house_19 : decode cX5_house 19 = .ok (.iconst 0, 1) := by decide +kernel
theorem dX5_house_20 : decode cX5_house 20 = .ok (.istore_n 1, 1) := by decide +kernel
theorem dX5_house_21 : decode cX5_house 21 = .ok (.iconst 1, 1) := by decide +kernel
theorem dX5_house_22 : decode cX5_house 22 = .ok (.istore_n 2, 1) := by decide +kernel
theorem dX5_house_23 : decode cX5_house 23 = .ok (.iload_n 2, 1) := by decide +kernel
theorem dX5_house_24 : decode cX5_house 24 = .ok (.ifCond .eq 47, 3) := by decide +kernel
theorem dX5_house_27 : decode cX5_house 27 = .ok (.aload_n 0, 1) := by decide +kernel
theorem dX5_house_28 : decode cX5_house 28 = .ok (.invokevirtual 229, 3) := by decide +kernel
theorem dX5_house_31 : decode cX5_house 31 = .ok (.aload_n 0, 1) := by decide +kernel
theorem dX5_house_32 : decode cX5_house 32 = .ok (.invokevirtual 266, 3) := by decide +kernel
theorem dX5_house_35 : decode cX5_house 35 = .ok (.iinc 1 1, 3) := by decide +kernel
theorem dX5_house_38 : decode cX5_house 38 = .ok (.aload_n 0, 1) := by decide +kernel
theorem dX5_house_39 : decode cX5_house 39 = .ok (.getfield 225, 3) := by decide +kernel
theorem dX5_house_42 : decode cX5_house 42 = .ok (.ifCond .eq 24, 3) := by decide +kernel
theorem dX5_house_45 : decode cX5_house 45 = .ok (.aload_n 0, 1) := by decide +kernel
theorem dX5_house_46 : decode cX5_house 46 = .ok (.getfield 193, 3) := by decide +kernel
theorem dX5_house_49 : decode cX5_house 49 = .ok (.iconst 3, 1) := by decide +kernel
theorem dX5_house_50 : decode cX5_house 50 = .ok (.if_icmp .ne 16, 3) := by decide +kernel
theorem dX5_house_53 : decode cX5_house 53 = .ok (.aload_n 0, 1) := by decide +kernel
theorem dX5_house_54 : decode cX5_house 54 = .ok (.getfield 200, 3) := by decide +kernel
theorem dX5_house_57 : decode cX5_house 57 = .ok (.bipush 59, 2) := by decide +kernel
theorem dX5_house_59 : decode cX5_house 59 = .ok (.if_icmp .ne 7, 3) := by decide +kernel
theorem dX5_house_62 : decode cX5_house 62 = .ok (.iconst 1, 1) := by decide +kernel
theorem dX5_house_63 : decode cX5_house 63 = .ok (.goto 4, 3) := by decide +kernel
theorem dX5_house_66 : decode cX5_house 66 = .ok (.iconst 0, 1) := by decide +kernel
theorem dX5_house_67 : decode cX5_house 67 = .ok (.istore_n 2, 1) := by decide +kernel
theorem dX5_house_68 : decode cX5_house 68 = .ok (.goto (-45), 3) := by decide +kernel
theorem dX5_house_71 : decode cX5_house 71 = .ok (.aload_n 0, 1) := by decide +kernel
theorem dX5_house_72 : decode cX5_house 72 = .ok (.aload_n 0, 1) := by decide +kernel
theorem dX5_house_73 : decode cX5_house 73 = .ok (.getfield 225, 3) := by decide +kernel
theorem dX5_house_76 : decode cX5_house 76 = .ok (.ifCond .eq 14, 3) := by decide +kernel
theorem dX5_house_79 : decode cX5_house 79 = .ok (.aload_n 0, 1) := by decide +kernel
theorem dX5_house_80 : decode cX5_house 80 = .ok (.getfield 193, 3) := by decide +kernel
theorem dX5_house_83 : decode cX5_house 83 = .ok (.ifCond .ne 7, 3) := by decide +kernel
theorem dX5_house_86 : decode cX5_house 86 = .ok (.iconst 1, 1) := by decide +kernel
theorem dX5_house_87 : decode cX5_house 87 = .ok (.goto 4, 3) := by decide +kernel
theorem dX5_house_90 : decode cX5_house 90 = .ok (.iconst 0, 1) := by decide +kernel
theorem dX5_house_91 : decode cX5_house 91 = .ok (.putfield 225, 3) := by decide +kernel
theorem dX5_house_94 : decode cX5_house 94 = .ok (.aload_n 0, 1) := by decide +kernel
theorem dX5_house_95 : decode cX5_house 95 = .ok (.iconst 0, 1) := by decide +kernel
theorem dX5_house_96 : decode cX5_house 96 = .ok (.putfield 174, 3) := by decide +kernel
theorem dX5_house_99 : decode cX5_house 99 = .ok (.aload_n 0, 1) := by decide +kernel
theorem dX5_house_100 : decode cX5_house 100 = .ok (.getfield 225, 3) := by decide +kernel
theorem dX5_house_103 : decode cX5_house 103 = .ok (.ifCond .ne 19, 3) := by decide +kernel
theorem dX5_house_106 : decode cX5_house 106 = .ok (.aload_n 0, 1) := by decide +kernel
theorem dX5_house_107 : decode cX5_house 107 = .ok (.iconst 0, 1) := by decide +kernel
theorem dX5_house_108 : decode cX5_house 108 = .ok (.aload_n 0, 1) := by decide +kernel
theorem dX5_house_109 : decode cX5_house 109 = .ok (.getfield 41, 3) := by decide +kernel
theorem dX5_house_112 : decode cX5_house 112 = .ok (.invokevirtual 147, 3) := by decide +kernel
theorem dX5_house_115 : decode cX5_house 115 = .ok (.iconst (-1), 1) := by decide +kernel
theorem dX5_house_116 : decode cX5_house 116 = .ok (.aload_n 0, 1) := by decide +kernel
theorem dX5_house_117 : decode cX5_house 117 = .ok (.getfield 181, 3) := by decide +kernel
theorem dX5_house_120 : decode cX5_house 120 = .ok (.isub, 1) := by decide +kernel
theorem dX5_house_121 : decode cX5_house 121 = .ok (.ireturn, 1) := by decide +kernel
theorem dX5_house_122 : decode cX5_house 122 = .ok (.iload_n 1, 1) := by decide +kernel
theorem dX5_house_123 : decode cX5_house 123 = .ok (.ireturn, 1) := by decide +kernel
theorem dX5_isSheet_0 : decode cX5_isSheet 0 = .ok (.iload_n 0, 1) := by decide +kernel
theorem dX5_isSheet_1 : decode cX5_isSheet 1 = .ok (.iconst 0, 1) := by decide +kernel
theorem dX5_isSheet_2 : decode cX5_isSheet 2 = .ok (.iconst 3, 1) := by decide +kernel
theorem dX5_isSheet_3 : decode cX5_isSheet 3 = .ok (.invokestatic 49, 3) := by decide +kernel
theorem dX5_isSheet_6 : decode cX5_isSheet 6 = .ok (.ireturn, 1) := by decide +kernel
theorem dX5_narrow_0 : decode cX5_narrow 0 = .ok (.iload_n 0, 1) := by decide +kernel
theorem dX5_narrow_1 : decode cX5_narrow 1 = .ok (.bipush 8, 2) := by decide +kernel
theorem dX5_narrow_3 : decode cX5_narrow 3 = .ok (.if_icmp .ne 13, 3) := by decide +kernel
theorem dX5_narrow_6 : decode cX5_narrow 6 = .ok (.lload_n 1, 1) := by decide +kernel
theorem dX5_narrow_7 : decode cX5_narrow 7 = .ok (.bipush 56, 2) := by decide +kernel
theorem dX5_narrow_9 : decode cX5_narrow 9 = .ok (.lshl, 1) := by decide +kernel
theorem dX5_narrow_10 : decode cX5_narrow 10 = .ok (.bipush 56, 2) := by decide +kernel
theorem dX5_narrow_12 : decode cX5_narrow 12 = .ok (.lshr, 1) := by decide +kernel
theorem dX5_narrow_13 : decode cX5_narrow 13 = .ok (.goto 20, 3) := by decide +kernel
theorem dX5_narrow_16 : decode cX5_narrow 16 = .ok (.iload_n 0, 1) := by decide +kernel
theorem dX5_narrow_17 : decode cX5_narrow 17 = .ok (.bipush 16, 2) := by decide +kernel
theorem dX5_narrow_19 : decode cX5_narrow 19 = .ok (.if_icmp .ne 13, 3) := by decide +kernel
theorem dX5_narrow_22 : decode cX5_narrow 22 = .ok (.lload_n 1, 1) := by decide +kernel
theorem dX5_narrow_23 : decode cX5_narrow 23 = .ok (.bipush 48, 2) := by decide +kernel
theorem dX5_narrow_25 : decode cX5_narrow 25 = .ok (.lshl, 1) := by decide +kernel
theorem dX5_narrow_26 : decode cX5_narrow 26 = .ok (.bipush 48, 2) := by decide +kernel
theorem dX5_narrow_28 : decode cX5_narrow 28 = .ok (.lshr, 1) := by decide +kernel
theorem dX5_narrow_29 : decode cX5_narrow 29 = .ok (.goto 4, 3) := by decide +kernel
theorem dX5_narrow_32 : decode cX5_narrow 32 = .ok (.lload_n 1, 1) := by decide +kernel
theorem dX5_narrow_33 : decode cX5_narrow 33 = .ok (.lreturn, 1) := by decide +kernel
theorem dX5_sheet_0 : decode cX5_sheet 0 = .ok (.iload_n 1, 1) := by decide +kernel
theorem dX5_sheet_1 : decode cX5_sheet 1 = .ok (.invokestatic 269, 3) := by decide +kernel
theorem dX5_sheet_4 : decode cX5_sheet 4 = .ok (.ifCond .eq 25, 3) := by decide +kernel
theorem dX5_sheet_7 : decode cX5_sheet 7 = .ok (.iload_n 2, 1) := by decide +kernel
theorem dX5_sheet_8 : decode cX5_sheet 8 = .ok (.ifCond .eq 28, 3) := by decide +kernel
theorem dX5_sheet_11 : decode cX5_sheet 11 = .ok (.iload_n 2, 1) := by decide +kernel
theorem dX5_sheet_12 : decode cX5_sheet 12 = .ok (.bipush 8, 2) := by decide +kernel
theorem dX5_sheet_14 : decode cX5_sheet 14 = .ok (.if_icmp .eq 22, 3) := by decide +kernel
theorem dX5_sheet_17 : decode cX5_sheet 17 = .ok (.iload_n 2, 1) := by decide +kernel
theorem dX5_sheet_18 : decode cX5_sheet 18 = .ok (.bipush 16, 2) := by decide +kernel
theorem dX5_sheet_20 : decode cX5_sheet 20 = .ok (.if_icmp .eq 16, 3) := by decide +kernel
theorem dX5_sheet_23 : decode cX5_sheet 23 = .ok (.iload_n 2, 1) := by decide +kernel
theorem dX5_sheet_24 : decode cX5_sheet 24 = .ok (.bipush 64, 2) := by decide +kernel
theorem dX5_sheet_26 : decode cX5_sheet 26 = .ok (.if_icmp .eq 10, 3) := by decide +kernel
theorem dX5_sheet_29 : decode cX5_sheet 29 = .ok (.aload_n 0, 1) := by decide +kernel
theorem dX5_sheet_30 : decode cX5_sheet 30 = .ok (.ldc 48, 2) := by decide +kernel
theorem dX5_sheet_32 : decode cX5_sheet 32 = .ok (.invokevirtual 57, 3) := by decide +kernel
theorem dX5_sheet_35 : decode cX5_sheet 35 = .ok (.ireturn, 1) := by decide +kernel
theorem dX5_sheet_36 : decode cX5_sheet 36 = .ok (.iload_n 3, 1) := by decide +kernel
theorem dX5_sheet_37 : decode cX5_sheet 37 = .ok (.ifCond .ge 11, 3) := by decide +kernel
theorem dX5_sheet_40 : decode cX5_sheet 40 = .ok (.aload_n 0, 1) := by decide +kernel
theorem dX5_sheet_41 : decode cX5_sheet 41 = .ok (.ldc_w 272, 3) := by decide +kernel
theorem dX5_sheet_44 : decode cX5_sheet 44 = .ok (.invokevirtual 57, 3) := by decide +kernel
theorem dX5_sheet_47 : decode cX5_sheet 47 = .ok (.ireturn, 1) := by decide +kernel
theorem dX5_sheet_48 : decode cX5_sheet 48 = .ok (.iload_n 3, 1) := by decide +kernel
theorem dX5_sheet_49 : decode cX5_sheet 49 = .ok (.bipush 40, 2) := by decide +kernel
theorem dX5_sheet_51 : decode cX5_sheet 51 = .ok (.if_icmp .le 10, 3) := by decide +kernel
theorem dX5_sheet_54 : decode cX5_sheet 54 = .ok (.aload_n 0, 1) := by decide +kernel
theorem dX5_sheet_55 : decode cX5_sheet 55 = .ok (.ldc 48, 2) := by decide +kernel
theorem dX5_sheet_57 : decode cX5_sheet 57 = .ok (.invokevirtual 57, 3) := by decide +kernel
theorem dX5_sheet_60 : decode cX5_sheet 60 = .ok (.ireturn, 1) := by decide +kernel
theorem dX5_sheet_61 : decode cX5_sheet 61 = .ok (.aload_n 0, 1) := by decide +kernel
theorem dX5_sheet_62 : decode cX5_sheet 62 = .ok (.getfield 25, 3) := by decide +kernel
theorem dX5_sheet_65 : decode cX5_sheet 65 = .ok (.iload_n 1, 1) := by decide +kernel
theorem dX5_sheet_66 : decode cX5_sheet 66 = .ok (.iload_n 2, 1) := by decide +kernel
theorem dX5_sheet_67 : decode cX5_sheet 67 = .ok (.iastore, 1) := by decide +kernel
theorem dX5_sheet_68 : decode cX5_sheet 68 = .ok (.aload_n 0, 1) := by decide +kernel
theorem dX5_sheet_69 : decode cX5_sheet 69 = .ok (.getfield 28, 3) := by decide +kernel
theorem dX5_sheet_72 : decode cX5_sheet 72 = .ok (.iload_n 1, 1) := by decide +kernel
theorem dX5_sheet_73 : decode cX5_sheet 73 = .ok (.iload_n 2, 1) := by decide +kernel
theorem dX5_sheet_74 : decode cX5_sheet 74 = .ok (.ifCond .ne 7, 3) := by decide +kernel
theorem dX5_sheet_77 : decode cX5_sheet 77 = .ok (.iconst 0, 1) := by decide +kernel
theorem dX5_sheet_78 : decode cX5_sheet 78 = .ok (.goto 4, 3) := by decide +kernel
theorem dX5_sheet_81 : decode cX5_sheet 81 = .ok (.iload_n 3, 1) := by decide +kernel
theorem dX5_sheet_82 : decode cX5_sheet 82 = .ok (.iastore, 1) := by decide +kernel
theorem dX5_sheet_83 : decode cX5_sheet 83 = .ok (.iconst 0, 1) := by decide +kernel
theorem dX5_sheet_84 : decode cX5_sheet 84 = .ok (.istore 4, 2) := by decide +kernel
theorem dX5_sheet_86 : decode cX5_sheet 86 = .ok (.iload 4, 2) := by decide +kernel
theorem dX5_sheet_88 : decode cX5_sheet 88 = .ok (.bipush 40, 2) := by decide +kernel
theorem dX5_sheet_90 : decode cX5_sheet 90 = .ok (.if_icmp .ge 22, 3) := by decide +kernel
theorem dX5_sheet_93 : decode cX5_sheet 93 = .ok (.aload_n 0, 1) := by decide +kernel
theorem dX5_sheet_94 : decode cX5_sheet 94 = .ok (.getfield 31, 3) := by decide +kernel
theorem dX5_sheet_97 : decode cX5_sheet 97 = .ok (.bipush 40, 2) := by decide +kernel
theorem dX5_sheet_99 : decode cX5_sheet 99 = .ok (.iload_n 1, 1) := by decide +kernel
theorem dX5_sheet_100 : decode cX5_sheet 100 = .ok (.imul, 1) := by decide +kernel
theorem dX5_sheet_101 : decode cX5_sheet 101 = .ok (.iload 4, 2) := by decide +kernel
theorem dX5_sheet_103 : decode cX5_sheet 103 = .ok (.iadd, 1) := by decide +kernel
theorem dX5_sheet_104 : decode cX5_sheet 104 = .ok (.lconst 0, 1) := by decide +kernel
theorem dX5_sheet_105 : decode cX5_sheet 105 = .ok (.lastore, 1) := by decide +kernel
theorem dX5_sheet_106 : decode cX5_sheet 106 = .ok (.iinc 4 1, 3) := by decide +kernel
theorem dX5_sheet_109 : decode cX5_sheet 109 = .ok (.goto (-23), 3) := by decide +kernel
theorem dX5_sheet_112 : decode cX5_sheet 112 = .ok (.aload_n 0, 1) := by decide +kernel
theorem dX5_sheet_113 : decode cX5_sheet 113 = .ok (.getfield 28, 3) := by decide +kernel
theorem dX5_sheet_116 : decode cX5_sheet 116 = .ok (.iload_n 1, 1) := by decide +kernel
theorem dX5_sheet_117 : decode cX5_sheet 117 = .ok (.iaload, 1) := by decide +kernel
theorem dX5_sheet_118 : decode cX5_sheet 118 = .ok (.ireturn, 1) := by decide +kernel
theorem dX5_write_0 : decode cX5_write 0 = .ok (.iload_n 1, 1) := by decide +kernel
theorem dX5_write_1 : decode cX5_write 1 = .ok (.invokestatic 269, 3) := by decide +kernel
theorem dX5_write_4 : decode cX5_write 4 = .ok (.ifCond .ne 11, 3) := by decide +kernel
theorem dX5_write_7 : decode cX5_write 7 = .ok (.aload_n 0, 1) := by decide +kernel
theorem dX5_write_8 : decode cX5_write 8 = .ok (.ldc 48, 2) := by decide +kernel
theorem dX5_write_10 : decode cX5_write 10 = .ok (.invokevirtual 57, 3) := by decide +kernel
theorem dX5_write_13 : decode cX5_write 13 = .ok (.i2l, 1) := by decide +kernel
theorem dX5_write_14 : decode cX5_write 14 = .ok (.lreturn, 1) := by decide +kernel
theorem dX5_write_15 : decode cX5_write 15 = .ok (.aload_n 0, 1) := by decide +kernel
theorem dX5_write_16 : decode cX5_write 16 = .ok (.getfield 25, 3) := by decide +kernel
theorem dX5_write_19 : decode cX5_write 19 = .ok (.iload_n 1, 1) := by decide +kernel
theorem dX5_write_20 : decode cX5_write 20 = .ok (.iaload, 1) := by decide +kernel
theorem dX5_write_21 : decode cX5_write 21 = .ok (.ifCond .ne 12, 3) := by decide +kernel
theorem dX5_write_24 : decode cX5_write 24 = .ok (.aload_n 0, 1) := by decide +kernel
theorem dX5_write_25 : decode cX5_write 25 = .ok (.ldc_w 273, 3) := by decide +kernel
theorem dX5_write_28 : decode cX5_write 28 = .ok (.invokevirtual 57, 3) := by decide +kernel
theorem dX5_write_31 : decode cX5_write 31 = .ok (.i2l, 1) := by decide +kernel
theorem dX5_write_32 : decode cX5_write 32 = .ok (.lreturn, 1) := by decide +kernel
theorem dX5_write_33 : decode cX5_write 33 = .ok (.iload_n 2, 1) := by decide +kernel
theorem dX5_write_34 : decode cX5_write 34 = .ok (.iconst 0, 1) := by decide +kernel
theorem dX5_write_35 : decode cX5_write 35 = .ok (.aload_n 0, 1) := by decide +kernel
theorem dX5_write_36 : decode cX5_write 36 = .ok (.getfield 28, 3) := by decide +kernel
theorem dX5_write_39 : decode cX5_write 39 = .ok (.iload_n 1, 1) := by decide +kernel
theorem dX5_write_40 : decode cX5_write 40 = .ok (.iaload, 1) := by decide +kernel
theorem dX5_write_41 : decode cX5_write 41 = .ok (.iconst 1, 1) := by decide +kernel
theorem dX5_write_42 : decode cX5_write 42 = .ok (.isub, 1) := by decide +kernel
theorem dX5_write_43 : decode cX5_write 43 = .ok (.invokestatic 49, 3) := by decide +kernel
theorem dX5_write_46 : decode cX5_write 46 = .ok (.ifCond .ne 11, 3) := by decide +kernel
theorem dX5_write_49 : decode cX5_write 49 = .ok (.aload_n 0, 1) := by decide +kernel
theorem dX5_write_50 : decode cX5_write 50 = .ok (.ldc 48, 2) := by decide +kernel
theorem dX5_write_52 : decode cX5_write 52 = .ok (.invokevirtual 57, 3) := by decide +kernel
theorem dX5_write_55 : decode cX5_write 55 = .ok (.i2l, 1) := by decide +kernel
theorem dX5_write_56 : decode cX5_write 56 = .ok (.lreturn, 1) := by decide +kernel
theorem dX5_write_57 : decode cX5_write 57 = .ok (.aload_n 0, 1) := by decide +kernel
theorem dX5_write_58 : decode cX5_write 58 = .ok (.getfield 31, 3) := by decide +kernel
theorem dX5_write_61 : decode cX5_write 61 = .ok (.bipush 40, 2) := by decide +kernel
theorem dX5_write_63 : decode cX5_write 63 = .ok (.iload_n 1, 1) := by decide +kernel
theorem dX5_write_64 : decode cX5_write 64 = .ok (.imul, 1) := by decide +kernel
theorem dX5_write_65 : decode cX5_write 65 = .ok (.iload_n 2, 1) := by decide +kernel
theorem dX5_write_66 : decode cX5_write 66 = .ok (.iadd, 1) := by decide +kernel
theorem dX5_write_67 : decode cX5_write 67 = .ok (.laload, 1) := by decide +kernel
theorem dX5_write_68 : decode cX5_write 68 = .ok (.lstore 5, 2) := by decide +kernel
theorem dX5_write_70 : decode cX5_write 70 = .ok (.aload_n 0, 1) := by decide +kernel
theorem dX5_write_71 : decode cX5_write 71 = .ok (.getfield 31, 3) := by decide +kernel
theorem dX5_write_74 : decode cX5_write 74 = .ok (.bipush 40, 2) := by decide +kernel
theorem dX5_write_76 : decode cX5_write 76 = .ok (.iload_n 1, 1) := by decide +kernel
theorem dX5_write_77 : decode cX5_write 77 = .ok (.imul, 1) := by decide +kernel
theorem dX5_write_78 : decode cX5_write 78 = .ok (.iload_n 2, 1) := by decide +kernel
theorem dX5_write_79 : decode cX5_write 79 = .ok (.iadd, 1) := by decide +kernel
theorem dX5_write_80 : decode cX5_write 80 = .ok (.aload_n 0, 1) := by decide +kernel
theorem dX5_write_81 : decode cX5_write 81 = .ok (.getfield 25, 3) := by decide +kernel
theorem dX5_write_84 : decode cX5_write 84 = .ok (.iload_n 1, 1) := by decide +kernel
theorem dX5_write_85 : decode cX5_write 85 = .ok (.iaload, 1) := by decide +kernel
theorem dX5_write_86 : decode cX5_write 86 = .ok (.lload_n 3, 1) := by decide +kernel
theorem dX5_write_87 : decode cX5_write 87 = .ok (.invokestatic 274, 3) := by decide +kernel
theorem dX5_write_90 : decode cX5_write 90 = .ok (.lastore, 1) := by decide +kernel
theorem dX5_write_91 : decode cX5_write 91 = .ok (.lload 5, 2) := by decide +kernel
theorem dX5_write_93 : decode cX5_write 93 = .ok (.lreturn, 1) := by decide +kernel
theorem dX5_isPart__0 : decode cX5_isPart_ 0 = .ok (.iload_n 2, 1) := by decide +kernel
theorem dX5_isPart__1 : decode cX5_isPart_ 1 = .ok (.ifCond .lt 33, 3) := by decide +kernel
theorem dX5_isPart__4 : decode cX5_isPart_ 4 = .ok (.iload_n 3, 1) := by decide +kernel
theorem dX5_isPart__5 : decode cX5_isPart_ 5 = .ok (.ifCond .lt 29, 3) := by decide +kernel
theorem dX5_isPart__8 : decode cX5_isPart_ 8 = .ok (.iload_n 3, 1) := by decide +kernel
theorem dX5_isPart__9 : decode cX5_isPart_ 9 = .ok (.aload_n 0, 1) := by decide +kernel
theorem dX5_isPart__10 : decode cX5_isPart_ 10 = .ok (.getfield 28, 3) := by decide +kernel
theorem dX5_isPart__13 : decode cX5_isPart_ 13 = .ok (.iload_n 1, 1) := by decide +kernel
theorem dX5_isPart__14 : decode cX5_isPart_ 14 = .ok (.iaload, 1) := by decide +kernel
theorem dX5_isPart__15 : decode cX5_isPart_ 15 = .ok (.if_icmp .gt 19, 3) := by decide +kernel
theorem dX5_isPart__18 : decode cX5_isPart_ 18 = .ok (.iload_n 2, 1) := by decide +kernel
theorem dX5_isPart__19 : decode cX5_isPart_ 19 = .ok (.aload_n 0, 1) := by decide +kernel
theorem dX5_isPart__20 : decode cX5_isPart_ 20 = .ok (.getfield 28, 3) := by decide +kernel
theorem dX5_isPart__23 : decode cX5_isPart_ 23 = .ok (.iload_n 1, 1) := by decide +kernel
theorem dX5_isPart__24 : decode cX5_isPart_ 24 = .ok (.iaload, 1) := by decide +kernel
theorem dX5_isPart__25 : decode cX5_isPart_ 25 = .ok (.iload_n 3, 1) := by decide +kernel
theorem dX5_isPart__26 : decode cX5_isPart_ 26 = .ok (.isub, 1) := by decide +kernel
theorem dX5_isPart__27 : decode cX5_isPart_ 27 = .ok (.if_icmp .gt 7, 3) := by decide +kernel
theorem dX5_isPart__30 : decode cX5_isPart_ 30 = .ok (.iconst 1, 1) := by decide +kernel
theorem dX5_isPart__31 : decode cX5_isPart_ 31 = .ok (.goto 4, 3) := by decide +kernel
theorem dX5_isPart__34 : decode cX5_isPart_ 34 = .ok (.iconst 0, 1) := by decide +kernel
theorem dX5_isPart__35 : decode cX5_isPart_ 35 = .ok (.ireturn, 1) := by decide +kernel
theorem dX5_copy_0 : decode cX5_copy 0 = .ok (.iload_n 1, 1) := by decide +kernel
theorem dX5_copy_1 : decode cX5_copy 1 = .ok (.invokestatic 269, 3) := by decide +kernel
theorem dX5_copy_4 : decode cX5_copy 4 = .ok (.ifCond .eq 10, 3) := by decide +kernel
theorem dX5_copy_7 : decode cX5_copy 7 = .ok (.iload_n 3, 1) := by decide +kernel
theorem dX5_copy_8 : decode cX5_copy 8 = .ok (.invokestatic 269, 3) := by decide +kernel
theorem dX5_copy_11 : decode cX5_copy 11 = .ok (.ifCond .ne 10, 3) := by decide +kernel
theorem dX5_copy_14 : decode cX5_copy 14 = .ok (.aload_n 0, 1) := by decide +kernel
theorem dX5_copy_15 : decode cX5_copy 15 = .ok (.ldc 48, 2) := by decide +kernel
theorem dX5_copy_17 : decode cX5_copy 17 = .ok (.invokevirtual 57, 3) := by decide +kernel
theorem dX5_copy_20 : decode cX5_copy 20 = .ok (.ireturn, 1) := by decide +kernel
theorem dX5_copy_21 : decode cX5_copy 21 = .ok (.aload_n 0, 1) := by decide +kernel
theorem dX5_copy_22 : decode cX5_copy 22 = .ok (.getfield 25, 3) := by decide +kernel
theorem dX5_copy_25 : decode cX5_copy 25 = .ok (.iload_n 1, 1) := by decide +kernel
theorem dX5_copy_26 : decode cX5_copy 26 = .ok (.iaload, 1) := by decide +kernel
theorem dX5_copy_27 : decode cX5_copy 27 = .ok (.ifCond .eq 12, 3) := by decide +kernel
theorem dX5_copy_30 : decode cX5_copy 30 = .ok (.aload_n 0, 1) := by decide +kernel
theorem dX5_copy_31 : decode cX5_copy 31 = .ok (.getfield 25, 3) := by decide +kernel
theorem dX5_copy_34 : decode cX5_copy 34 = .ok (.iload_n 3, 1) := by decide +kernel
theorem dX5_copy_35 : decode cX5_copy 35 = .ok (.iaload, 1) := by decide +kernel
theorem dX5_copy_36 : decode cX5_copy 36 = .ok (.ifCond .ne 11, 3) := by decide +kernel
theorem dX5_copy_39 : decode cX5_copy 39 = .ok (.aload_n 0, 1) := by decide +kernel
theorem dX5_copy_40 : decode cX5_copy 40 = .ok (.ldc_w 273, 3) := by decide +kernel
theorem dX5_copy_43 : decode cX5_copy 43 = .ok (.invokevirtual 57, 3) := by decide +kernel
theorem dX5_copy_46 : decode cX5_copy 46 = .ok (.ireturn, 1) := by decide +kernel
theorem dX5_copy_47 : decode cX5_copy 47 = .ok (.aload_n 0, 1) := by decide +kernel
theorem dX5_copy_48 : decode cX5_copy 48 = .ok (.getfield 25, 3) := by decide +kernel
theorem dX5_copy_51 : decode cX5_copy 51 = .ok (.iload_n 1, 1) := by decide +kernel
theorem dX5_copy_52 : decode cX5_copy 52 = .ok (.iaload, 1) := by decide +kernel
theorem dX5_copy_53 : decode cX5_copy 53 = .ok (.aload_n 0, 1) := by decide +kernel
theorem dX5_copy_54 : decode cX5_copy 54 = .ok (.getfield 25, 3) := by decide +kernel
theorem dX5_copy_57 : decode cX5_copy 57 = .ok (.iload_n 3, 1) := by decide +kernel
theorem dX5_copy_58 : decode cX5_copy 58 = .ok (.iaload, 1) := by decide +kernel
theorem dX5_copy_59 : decode cX5_copy 59 = .ok (.if_icmp .eq 10, 3) := by decide +kernel
theorem dX5_copy_62 : decode cX5_copy 62 = .ok (.aload_n 0, 1) := by decide +kernel
theorem dX5_copy_63 : decode cX5_copy 63 = .ok (.ldc 122, 2) := by decide +kernel
theorem dX5_copy_65 : decode cX5_copy 65 = .ok (.invokevirtual 57, 3) := by decide +kernel
theorem dX5_copy_68 : decode cX5_copy 68 = .ok (.ireturn, 1) := by decide +kernel
theorem dX5_copy_69 : decode cX5_copy 69 = .ok (.aload_n 0, 1) := by decide +kernel
theorem dX5_copy_70 : decode cX5_copy 70 = .ok (.iload_n 1, 1) := by decide +kernel
theorem dX5_copy_71 : decode cX5_copy 71 = .ok (.iload_n 2, 1) := by decide +kernel
theorem dX5_copy_72 : decode cX5_copy 72 = .ok (.iload 5, 2) := by decide +kernel
theorem dX5_copy_74 : decode cX5_copy 74 = .ok (.invokevirtual 278, 3) := by decide +kernel
theorem dX5_copy_77 : decode cX5_copy 77 = .ok (.ifCond .eq 15, 3) := by decide +kernel
theorem dX5_copy_80 : decode cX5_copy 80 = .ok (.aload_n 0, 1) := by decide +kernel
theorem dX5_copy_81 : decode cX5_copy 81 = .ok (.iload_n 3, 1) := by decide +kernel
theorem dX5_copy_82 : decode cX5_copy 82 = .ok (.iload 4, 2) := by decide +kernel
theorem dX5_copy_84 : decode cX5_copy 84 = .ok (.iload 5, 2) := by decide +kernel
theorem dX5_copy_86 : decode cX5_copy 86 = .ok (.invokevirtual 278, 3) := by decide +kernel
theorem dX5_copy_89 : decode cX5_copy 89 = .ok (.ifCond .ne 10, 3) := by decide +kernel
theorem dX5_copy_92 : decode cX5_copy 92 = .ok (.aload_n 0, 1) := by decide +kernel
theorem dX5_copy_93 : decode cX5_copy 93 = .ok (.ldc 48, 2) := by decide +kernel
theorem dX5_copy_95 : decode cX5_copy 95 = .ok (.invokevirtual 57, 3) := by decide +kernel
theorem dX5_copy_98 : decode cX5_copy 98 = .ok (.ireturn, 1) := by decide +kernel
theorem dX5_copy_99 : decode cX5_copy 99 = .ok (.iconst 0, 1) := by decide +kernel
theorem dX5_copy_100 : decode cX5_copy 100 = .ok (.istore 6, 2) := by decide +kernel
theorem dX5_copy_102 : decode cX5_copy 102 = .ok (.iload 6, 2) := by decide +kernel
theorem dX5_copy_104 : decode cX5_copy 104 = .ok (.iload 5, 2) := by decide +kernel
theorem dX5_copy_106 : decode cX5_copy 106 = .ok (.if_icmp .ge 30, 3) := by decide +kernel
theorem dX5_copy_109 : decode cX5_copy 109 = .ok (.aload_n 0, 1) := by decide +kernel
theorem dX5_copy_110 : decode cX5_copy 110 = .ok (.getfield 35, 3) := by decide +kernel
theorem dX5_copy_113 : decode cX5_copy 113 = .ok (.iload 6, 2) := by decide +kernel
theorem dX5_copy_115 : decode cX5_copy 115 = .ok (.aload_n 0, 1) := by decide +kernel
theorem dX5_copy_116 : decode cX5_copy 116 = .ok (.getfield 31, 3) := by decide +kernel
theorem dX5_copy_119 : decode cX5_copy 119 = .ok (.bipush 40, 2) := by decide +kernel
theorem dX5_copy_121 : decode cX5_copy 121 = .ok (.iload_n 1, 1) := by decide +kernel
theorem dX5_copy_122 : decode cX5_copy 122 = .ok (.imul, 1) := by decide +kernel
theorem dX5_copy_123 : decode cX5_copy 123 = .ok (.iload_n 2, 1) := by decide +kernel
theorem dX5_copy_124 : decode cX5_copy 124 = .ok (.iadd, 1) := by decide +kernel
theorem dX5_copy_125 : decode cX5_copy 125 = .ok (.iload 6, 2) := by decide +kernel
theorem dX5_copy_127 : decode cX5_copy 127 = .ok (.iadd, 1) := by decide +kernel
theorem dX5_copy_128 : decode cX5_copy 128 = .ok (.laload, 1) := by decide +kernel
theorem dX5_copy_129 : decode cX5_copy 129 = .ok (.lastore, 1) := by decide +kernel
theorem dX5_copy_130 : decode cX5_copy 130 = .ok (.iinc 6 1, 3) := by decide +kernel
theorem dX5_copy_133 : decode cX5_copy 133 = .ok (.goto (-31), 3) := by decide +kernel
theorem dX5_copy_136 : decode cX5_copy 136 = .ok (.iconst 0, 1) := by decide +kernel
theorem dX5_copy_137 : decode cX5_copy 137 = .ok (.istore 6, 2) := by decide +kernel
theorem dX5_copy_139 : decode cX5_copy 139 = .ok (.iload 6, 2) := by decide +kernel
theorem dX5_copy_141 : decode cX5_copy 141 = .ok (.iload 5, 2) := by decide +kernel
theorem dX5_copy_143 : decode cX5_copy 143 = .ok (.if_icmp .ge 31, 3) := by decide +kernel
theorem dX5_copy_146 : decode cX5_copy 146 = .ok (.aload_n 0, 1) := by decide +kernel
theorem dX5_copy_147 : decode cX5_copy 147 = .ok (.getfield 31, 3) := by decide +kernel
theorem dX5_copy_150 : decode cX5_copy 150 = .ok (.bipush 40, 2) := by decide +kernel
theorem dX5_copy_152 : decode cX5_copy 152 = .ok (.iload_n 3, 1) := by decide +kernel
theorem dX5_copy_153 : decode cX5_copy 153 = .ok (.imul, 1) := by decide +kernel
theorem dX5_copy_154 : decode cX5_copy 154 = .ok (.iload 4, 2) := by decide +kernel
theorem dX5_copy_156 : decode cX5_copy 156 = .ok (.iadd, 1) := by decide +kernel
theorem dX5_copy_157 : decode cX5_copy 157 = .ok (.iload 6, 2) := by decide +kernel
theorem dX5_copy_159 : decode cX5_copy 159 = .ok (.iadd, 1) := by decide +kernel
theorem dX5_copy_160 : decode cX5_copy 160 = .ok (.aload_n 0, 1) := by decide +kernel
theorem dX5_copy_161 : decode cX5_copy 161 = .ok (.getfield 35, 3) := by decide +kernel
theorem dX5_copy_164 : decode cX5_copy 164 = .ok (.iload 6, 2) := by decide +kernel
theorem dX5_copy_166 : decode cX5_copy 166 = .ok (.laload, 1) := by decide +kernel
theorem dX5_copy_167 : decode cX5_copy 167 = .ok (.lastore, 1) := by decide +kernel
theorem dX5_copy_168 : decode cX5_copy 168 = .ok (.iinc 6 1, 3) := by decide +kernel
theorem dX5_copy_171 : decode cX5_copy 171 = .ok (.goto (-32), 3) := by decide +kernel
theorem dX5_copy_174 : decode cX5_copy 174 = .ok (.iload 5, 2) := by decide +kernel
theorem dX5_copy_176 : decode cX5_copy 176 = .ok (.ireturn, 1) := by decide +kernel
theorem dX5_badSheet_0 : decode cX5_badSheet 0 = .ok (.iload_n 1, 1) := by decide +kernel
theorem dX5_badSheet_1 : decode cX5_badSheet 1 = .ok (.invokestatic 269, 3) := by decide +kernel
theorem dX5_badSheet_4 : decode cX5_badSheet 4 = .ok (.ifCond .ne 8, 3) := by decide +kernel
theorem dX5_badSheet_7 : decode cX5_badSheet 7 = .ok (.ldc 48, 2) := by decide +kernel
theorem dX5_badSheet_9 : decode cX5_badSheet 9 = .ok (.goto 19, 3) := by decide +kernel
theorem dX5_badSheet_12 : decode cX5_badSheet 12 = .ok (.aload_n 0, 1) := by decide +kernel
theorem dX5_badSheet_13 : decode cX5_badSheet 13 = .ok (.getfield 25, 3) := by decide +kernel
theorem dX5_badSheet_16 : decode cX5_badSheet 16 = .ok (.iload_n 1, 1) := by decide +kernel
theorem dX5_badSheet_17 : decode cX5_badSheet 17 = .ok (.iaload, 1) := by decide +kernel
theorem dX5_badSheet_18 : decode cX5_badSheet 18 = .ok (.ifCond .ne 9, 3) := by decide +kernel
theorem dX5_badSheet_21 : decode cX5_badSheet 21 = .ok (.ldc_w 273, 3) := by decide +kernel
theorem dX5_badSheet_24 : decode cX5_badSheet 24 = .ok (.goto 4, 3) := by decide +kernel
theorem dX5_badSheet_27 : decode cX5_badSheet 27 = .ok (.iconst 0, 1) := by decide +kernel
theorem dX5_badSheet_28 : decode cX5_badSheet 28 = .ok (.ireturn, 1) := by decide +kernel
theorem dX5_lays_0 : decode cX5_lays 0 = .ok (.aload_n 0, 1) := by decide +kernel
theorem dX5_lays_1 : decode cX5_lays 1 = .ok (.iload_n 1, 1) := by decide +kernel
theorem dX5_lays_2 : decode cX5_lays 2 = .ok (.invokevirtual 280, 3) := by decide +kernel
theorem dX5_lays_5 : decode cX5_lays 5 = .ok (.istore_n 2, 1) := by decide +kernel
theorem dX5_lays_6 : decode cX5_lays 6 = .ok (.iload_n 2, 1) := by decide +kernel
theorem dX5_lays_7 : decode cX5_lays 7 = .ok (.ifCond .eq 9, 3) := by decide +kernel
theorem dX5_lays_10 : decode cX5_lays 10 = .ok (.aload_n 0, 1) := by decide +kernel
theorem dX5_lays_11 : decode cX5_lays 11 = .ok (.iload_n 2, 1) := by decide +kernel
theorem dX5_lays_12 : decode cX5_lays 12 = .ok (.invokevirtual 57, 3) := by decide +kernel
theorem dX5_lays_15 : decode cX5_lays 15 = .ok (.ireturn, 1) := by decide +kernel
theorem dX5_lays_16 : decode cX5_lays 16 = .ok (.iconst 0, 1) := by decide +kernel
theorem dX5_lays_17 : decode cX5_lays 17 = .ok (.istore_n 3, 1) := by decide +kernel
theorem dX5_lays_18 : decode cX5_lays 18 = .ok (.iconst 0, 1) := by decide +kernel
theorem dX5_lays_19 : decode cX5_lays 19 = .ok (.istore 4, 2) := by decide +kernel
theorem dX5_lays_21 : decode cX5_lays 21 = .ok (.iload 4, 2) := by decide +kernel
theorem dX5_lays_23 : decode cX5_lays 23 = .ok (.aload_n 0, 1) := by decide +kernel
theorem dX5_lays_24 : decode cX5_lays 24 = .ok (.getfield 28, 3) := by decide +kernel
theorem dX5_lays_27 : decode cX5_lays 27 = .ok (.iload_n 1, 1) := by decide +kernel
theorem dX5_lays_28 : decode cX5_lays 28 = .ok (.iaload, 1) := by decide +kernel
theorem dX5_lays_29 : decode cX5_lays 29 = .ok (.if_icmp .ge 59, 3) := by decide +kernel
theorem dX5_lays_32 : decode cX5_lays 32 = .ok (.iload 4, 2) := by decide +kernel
theorem dX5_lays_34 : decode cX5_lays 34 = .ok (.bipush 8, 2) := by decide +kernel
theorem dX5_lays_36 : decode cX5_lays 36 = .ok (.if_icmp .ge 52, 3) := by decide +kernel
theorem dX5_lays_39 : decode cX5_lays 39 = .ok (.aload_n 0, 1) := by decide +kernel
theorem dX5_lays_40 : decode cX5_lays 40 = .ok (.getfield 31, 3) := by decide +kernel
theorem dX5_lays_43 : decode cX5_lays 43 = .ok (.bipush 40, 2) := by decide +kernel
theorem dX5_lays_45 : decode cX5_lays 45 = .ok (.iload_n 1, 1) := by decide +kernel
theorem dX5_lays_46 : decode cX5_lays 46 = .ok (.imul, 1) := by decide +kernel
theorem dX5_lays_47 : decode cX5_lays 47 = .ok (.iload 4, 2) := by decide +kernel
theorem dX5_lays_49 : decode cX5_lays 49 = .ok (.iadd, 1) := by decide +kernel
theorem dX5_lays_50 : decode cX5_lays 50 = .ok (.laload, 1) := by decide +kernel
theorem dX5_lays_51 : decode cX5_lays 51 = .ok (.lstore 5, 2) := by decide +kernel
theorem dX5_lays_53 : decode cX5_lays 53 = .ok (.lload 5, 2) := by decide +kernel
theorem dX5_lays_55 : decode cX5_lays 55 = .ok (.lconst 0, 1) := by decide +kernel
theorem dX5_lays_56 : decode cX5_lays 56 = .ok (.lcmp, 1) := by decide +kernel
theorem dX5_lays_57 : decode cX5_lays 57 = .ok (.ifCond .lt 25, 3) := by decide +kernel
theorem dX5_lays_60 : decode cX5_lays 60 = .ok (.lload 5, 2) := by decide +kernel
theorem dX5_lays_62 : decode cX5_lays 62 = .ok (.ldc2_w 283, 3) := by decide +kernel
theorem dX5_lays_65 : decode cX5_lays 65 = .ok (.lcmp, 1) := by decide +kernel
theorem dX5_lays_66 : decode cX5_lays 66 = .ok (.ifCond .gt 16, 3) := by decide +kernel
theorem dX5_lays_69 : decode cX5_lays 69 = .ok (.aload_n 0, 1) := by decide +kernel
theorem dX5_lays_70 : decode cX5_lays 70 = .ok (.iload 4, 2) := by decide +kernel
theorem dX5_lays_72 : decode cX5_lays 72 = .ok (.iconst 1, 1) := by decide +kernel
theorem dX5_lays_73 : decode cX5_lays 73 = .ok (.lload 5, 2) := by decide +kernel
theorem dX5_lays_75 : decode cX5_lays 75 = .ok (.l2i, 1) := by decide +kernel
theorem dX5_lays_76 : decode cX5_lays 76 = .ok (.invokevirtual 44, 3) := by decide +kernel
theorem dX5_lays_79 : decode cX5_lays 79 = .ok (.iinc 3 1, 3) := by decide +kernel
theorem dX5_lays_82 : decode cX5_lays 82 = .ok (.iinc 4 1, 3) := by decide +kernel
theorem dX5_lays_85 : decode cX5_lays 85 = .ok (.goto (-64), 3) := by decide +kernel
theorem dX5_lays_88 : decode cX5_lays 88 = .ok (.iload_n 3, 1) := by decide +kernel
theorem dX5_lays_89 : decode cX5_lays 89 = .ok (.ireturn, 1) := by decide +kernel
theorem dX5_book_0 : decode cX5_book 0 = .ok (.aload_n 0, 1) := by decide +kernel
theorem dX5_book_1 : decode cX5_book 1 = .ok (.iload_n 1, 1) := by decide +kernel
theorem dX5_book_2 : decode cX5_book 2 = .ok (.invokevirtual 280, 3) := by decide +kernel
theorem dX5_book_5 : decode cX5_book 5 = .ok (.istore_n 3, 1) := by decide +kernel
theorem dX5_book_6 : decode cX5_book 6 = .ok (.iload_n 3, 1) := by decide +kernel
theorem dX5_book_7 : decode cX5_book 7 = .ok (.ifCond .eq 9, 3) := by decide +kernel
theorem dX5_book_10 : decode cX5_book 10 = .ok (.aload_n 0, 1) := by decide +kernel
theorem dX5_book_11 : decode cX5_book 11 = .ok (.iload_n 3, 1) := by decide +kernel
theorem dX5_book_12 : decode cX5_book 12 = .ok (.invokevirtual 57, 3) := by decide +kernel
theorem dX5_book_15 : decode cX5_book 15 = .ok (.ireturn, 1) := by decide +kernel
theorem dX5_book_16 : decode cX5_book 16 = .ok (.iload_n 2, 1) := by decide +kernel
theorem dX5_book_17 : decode cX5_book 17 = .ok (.invokestatic 61, 3) := by decide +kernel
theorem dX5_book_20 : decode cX5_book 20 = .ok (.ifCond .ne 10, 3) := by decide +kernel
theorem dX5_book_23 : decode cX5_book 23 = .ok (.aload_n 0, 1) := by decide +kernel
theorem dX5_book_24 : decode cX5_book 24 = .ok (.ldc 48, 2) := by decide +kernel
theorem dX5_book_26 : decode cX5_book 26 = .ok (.invokevirtual 57, 3) := by decide +kernel
theorem dX5_book_29 : decode cX5_book 29 = .ok (.ireturn, 1) := by decide +kernel
theorem dX5_book_30 : decode cX5_book 30 = .ok (.aload_n 0, 1) := by decide +kernel
theorem dX5_book_31 : decode cX5_book 31 = .ok (.iconst 1, 1) := by decide +kernel
theorem dX5_book_32 : decode cX5_book 32 = .ok (.aload_n 0, 1) := by decide +kernel
theorem dX5_book_33 : decode cX5_book 33 = .ok (.getfield 16, 3) := by decide +kernel
theorem dX5_book_36 : decode cX5_book 36 = .ok (.invokevirtual 147, 3) := by decide +kernel
theorem dX5_book_39 : decode cX5_book 39 = .ok (.iconst 0, 1) := by decide +kernel
theorem dX5_book_40 : decode cX5_book 40 = .ok (.istore 4, 2) := by decide +kernel
theorem dX5_book_42 : decode cX5_book 42 = .ok (.iload 4, 2) := by decide +kernel
theorem dX5_book_44 : decode cX5_book 44 = .ok (.aload_n 0, 1) := by decide +kernel
theorem dX5_book_45 : decode cX5_book 45 = .ok (.getfield 28, 3) := by decide +kernel
theorem dX5_book_48 : decode cX5_book 48 = .ok (.iload_n 1, 1) := by decide +kernel
theorem dX5_book_49 : decode cX5_book 49 = .ok (.iaload, 1) := by decide +kernel
theorem dX5_book_50 : decode cX5_book 50 = .ok (.if_icmp .ge 41, 3) := by decide +kernel
theorem dX5_book_53 : decode cX5_book 53 = .ok (.aload_n 0, 1) := by decide +kernel
theorem dX5_book_54 : decode cX5_book 54 = .ok (.getfield 31, 3) := by decide +kernel
theorem dX5_book_57 : decode cX5_book 57 = .ok (.bipush 40, 2) := by decide +kernel
theorem dX5_book_59 : decode cX5_book 59 = .ok (.iload_n 1, 1) := by decide +kernel
theorem dX5_book_60 : decode cX5_book 60 = .ok (.imul, 1) := by decide +kernel
theorem dX5_book_61 : decode cX5_book 61 = .ok (.iload 4, 2) := by decide +kernel
theorem dX5_book_63 : decode cX5_book 63 = .ok (.iadd, 1) := by decide +kernel
theorem dX5_book_64 : decode cX5_book 64 = .ok (.aload_n 0, 1) := by decide +kernel
theorem dX5_book_65 : decode cX5_book 65 = .ok (.getfield 25, 3) := by decide +kernel
theorem dX5_book_68 : decode cX5_book 68 = .ok (.iload_n 1, 1) := by decide +kernel
theorem dX5_book_69 : decode cX5_book 69 = .ok (.iaload, 1) := by decide +kernel
theorem dX5_book_70 : decode cX5_book 70 = .ok (.aload_n 0, 1) := by decide +kernel
theorem dX5_book_71 : decode cX5_book 71 = .ok (.iload_n 2, 1) := by decide +kernel
theorem dX5_book_72 : decode cX5_book 72 = .ok (.iconst 1, 1) := by decide +kernel
theorem dX5_book_73 : decode cX5_book 73 = .ok (.invokevirtual 71, 3) := by decide +kernel
theorem dX5_book_76 : decode cX5_book 76 = .ok (.i2l, 1) := by decide +kernel
theorem dX5_book_77 : decode cX5_book 77 = .ok (.invokestatic 274, 3) := by decide +kernel
theorem dX5_book_80 : decode cX5_book 80 = .ok (.lastore, 1) := by decide +kernel
theorem dX5_book_81 : decode cX5_book 81 = .ok (.aload_n 0, 1) := by decide +kernel
theorem dX5_book_82 : decode cX5_book 82 = .ok (.invokevirtual 139, 3) := by decide +kernel
theorem dX5_book_85 : decode cX5_book 85 = .ok (.iinc 4 1, 3) := by decide +kernel
theorem dX5_book_88 : decode cX5_book 88 = .ok (.goto (-46), 3) := by decide +kernel
theorem dX5_book_91 : decode cX5_book 91 = .ok (.aload_n 0, 1) := by decide +kernel
theorem dX5_book_92 : decode cX5_book 92 = .ok (.iconst 0, 1) := by decide +kernel
theorem dX5_book_93 : decode cX5_book 93 = .ok (.aload_n 0, 1) := by decide +kernel
theorem dX5_book_94 : decode cX5_book 94 = .ok (.getfield 16, 3) := by decide +kernel
theorem dX5_book_97 : decode cX5_book 97 = .ok (.invokevirtual 147, 3) := by decide +kernel
theorem dX5_book_100 : decode cX5_book 100 = .ok (.aload_n 0, 1) := by decide +kernel
theorem dX5_book_101 : decode cX5_book 101 = .ok (.getfield 28, 3) := by decide +kernel
theorem dX5_book_104 : decode cX5_book 104 = .ok (.iload_n 1, 1) := by decide +kernel
theorem dX5_book_105 : decode cX5_book 105 = .ok (.iaload, 1) := by decide +kernel
theorem dX5_book_106 : decode cX5_book 106 = .ok (.ireturn, 1) := by decide +kernel
theorem dX5_isSo_0 : decode cX5_isSo 0 = .ok (.iconst 1, 1) := by decide +kernel
theorem dX5_isSo_1 : decode cX5_isSo 1 = .ok (.istore_n 3, 1) := by decide +kernel
theorem dX5_isSo_2 : decode cX5_isSo 2 = .ok (.iconst 0, 1) := by decide +kernel
theorem dX5_isSo_3 : decode cX5_isSo 3 = .ok (.istore 4, 2) := by decide +kernel
theorem dX5_isSo_5 : decode cX5_isSo 5 = .ok (.iload 4, 2) := by decide +kernel
theorem dX5_isSo_7 : decode cX5_isSo 7 = .ok (.aload_n 0, 1) := by decide +kernel
theorem dX5_isSo_8 : decode cX5_isSo 8 = .ok (.getfield 28, 3) := by decide +kernel
theorem dX5_isSo_11 : decode cX5_isSo 11 = .ok (.iload_n 1, 1) := by decide +kernel
theorem dX5_isSo_12 : decode cX5_isSo 12 = .ok (.iaload, 1) := by decide +kernel
theorem dX5_isSo_13 : decode cX5_isSo 13 = .ok (.if_icmp .ge 46, 3) := by decide +kernel
theorem dX5_isSo_16 : decode cX5_isSo 16 = .ok (.iload_n 3, 1) := by decide +kernel
theorem dX5_isSo_17 : decode cX5_isSo 17 = .ok (.ifCond .eq 42, 3) := by decide +kernel
theorem dX5_isSo_20 : decode cX5_isSo 20 = .ok (.aload_n 0, 1) := by decide +kernel
theorem dX5_isSo_21 : decode cX5_isSo 21 = .ok (.getfield 31, 3) := by decide +kernel
theorem dX5_isSo_24 : decode cX5_isSo 24 = .ok (.bipush 40, 2) := by decide +kernel
theorem dX5_isSo_26 : decode cX5_isSo 26 = .ok (.iload_n 1, 1) := by decide +kernel
theorem dX5_isSo_27 : decode cX5_isSo 27 = .ok (.imul, 1) := by decide +kernel
theorem dX5_isSo_28 : decode cX5_isSo 28 = .ok (.iload 4, 2) := by decide +kernel
theorem dX5_isSo_30 : decode cX5_isSo 30 = .ok (.iadd, 1) := by decide +kernel
theorem dX5_isSo_31 : decode cX5_isSo 31 = .ok (.laload, 1) := by decide +kernel
theorem dX5_isSo_32 : decode cX5_isSo 32 = .ok (.aload_n 0, 1) := by decide +kernel
theorem dX5_isSo_33 : decode cX5_isSo 33 = .ok (.iload_n 2, 1) := by decide +kernel
theorem dX5_isSo_34 : decode cX5_isSo 34 = .ok (.iconst 1, 1) := by decide +kernel
theorem dX5_isSo_35 : decode cX5_isSo 35 = .ok (.invokevirtual 71, 3) := by decide +kernel
theorem dX5_isSo_38 : decode cX5_isSo 38 = .ok (.i2l, 1) := by decide +kernel
theorem dX5_isSo_39 : decode cX5_isSo 39 = .ok (.lcmp, 1) := by decide +kernel
theorem dX5_isSo_40 : decode cX5_isSo 40 = .ok (.ifCond .ne 7, 3) := by decide +kernel
theorem dX5_isSo_43 : decode cX5_isSo 43 = .ok (.iconst 1, 1) := by decide +kernel
theorem dX5_isSo_44 : decode cX5_isSo 44 = .ok (.goto 4, 3) := by decide +kernel
theorem dX5_isSo_47 : decode cX5_isSo 47 = .ok (.iconst 0, 1) := by decide +kernel
theorem dX5_isSo_48 : decode cX5_isSo 48 = .ok (.istore_n 3, 1) := by decide +kernel
theorem dX5_isSo_49 : decode cX5_isSo 49 = .ok (.aload_n 0, 1) := by decide +kernel
theorem dX5_isSo_50 : decode cX5_isSo 50 = .ok (.invokevirtual 139, 3) := by decide +kernel
theorem dX5_isSo_53 : decode cX5_isSo 53 = .ok (.iinc 4 1, 3) := by decide +kernel
theorem dX5_isSo_56 : decode cX5_isSo 56 = .ok (.goto (-51), 3) := by decide +kernel
theorem dX5_isSo_59 : decode cX5_isSo 59 = .ok (.iload_n 3, 1) := by decide +kernel
theorem dX5_isSo_60 : decode cX5_isSo 60 = .ok (.ireturn, 1) := by decide +kernel
theorem dX5_read_0 : decode cX5_read 0 = .ok (.aload_n 0, 1) := by decide +kernel
theorem dX5_read_1 : decode cX5_read 1 = .ok (.iload_n 1, 1) := by decide +kernel
theorem dX5_read_2 : decode cX5_read 2 = .ok (.invokevirtual 280, 3) := by decide +kernel
theorem dX5_read_5 : decode cX5_read 5 = .ok (.istore 4, 2) := by decide +kernel
theorem dX5_read_7 : decode cX5_read 7 = .ok (.iload 4, 2) := by decide +kernel
theorem dX5_read_9 : decode cX5_read 9 = .ok (.ifCond .eq 10, 3) := by decide +kernel
theorem dX5_read_12 : decode cX5_read 12 = .ok (.aload_n 0, 1) := by decide +kernel
theorem dX5_read_13 : decode cX5_read 13 = .ok (.iload 4, 2) := by decide +kernel
theorem dX5_read_15 : decode cX5_read 15 = .ok (.invokevirtual 57, 3) := by decide +kernel
theorem dX5_read_18 : decode cX5_read 18 = .ok (.ireturn, 1) := by decide +kernel
theorem dX5_read_19 : decode cX5_read 19 = .ok (.iload_n 2, 1) := by decide +kernel
theorem dX5_read_20 : decode cX5_read 20 = .ok (.invokestatic 61, 3) := by decide +kernel
theorem dX5_read_23 : decode cX5_read 23 = .ok (.ifCond .eq 11, 3) := by decide +kernel
theorem dX5_read_26 : decode cX5_read 26 = .ok (.aload_n 0, 1) := by decide +kernel
theorem dX5_read_27 : decode cX5_read 27 = .ok (.iload_n 3, 1) := by decide +kernel
theorem dX5_read_28 : decode cX5_read 28 = .ok (.invokevirtual 103, 3) := by decide +kernel
theorem dX5_read_31 : decode cX5_read 31 = .ok (.ifCond .ne 10, 3) := by decide +kernel
theorem dX5_read_34 : decode cX5_read 34 = .ok (.aload_n 0, 1) := by decide +kernel
theorem dX5_read_35 : decode cX5_read 35 = .ok (.ldc 48, 2) := by decide +kernel
theorem dX5_read_37 : decode cX5_read 37 = .ok (.invokevirtual 57, 3) := by decide +kernel
theorem dX5_read_40 : decode cX5_read 40 = .ok (.ireturn, 1) := by decide +kernel
theorem dX5_read_41 : decode cX5_read 41 = .ok (.iconst 0, 1) := by decide +kernel
theorem dX5_read_42 : decode cX5_read 42 = .ok (.istore 5, 2) := by decide +kernel
theorem dX5_read_44 : decode cX5_read 44 = .ok (.aload_n 0, 1) := by decide +kernel
theorem dX5_read_45 : decode cX5_read 45 = .ok (.iconst 1, 1) := by decide +kernel
theorem dX5_read_46 : decode cX5_read 46 = .ok (.aload_n 0, 1) := by decide +kernel
theorem dX5_read_47 : decode cX5_read 47 = .ok (.getfield 19, 3) := by decide +kernel
theorem dX5_read_50 : decode cX5_read 50 = .ok (.invokevirtual 147, 3) := by decide +kernel
theorem dX5_read_53 : decode cX5_read 53 = .ok (.iconst 0, 1) := by decide +kernel
theorem dX5_read_54 : decode cX5_read 54 = .ok (.istore 6, 2) := by decide +kernel
theorem dX5_read_56 : decode cX5_read 56 = .ok (.iload 6, 2) := by decide +kernel
theorem dX5_read_58 : decode cX5_read 58 = .ok (.bipush 48, 2) := by decide +kernel
theorem dX5_read_60 : decode cX5_read 60 = .ok (.if_icmp .ge 59, 3) := by decide +kernel
theorem dX5_read_63 : decode cX5_read 63 = .ok (.aload_n 0, 1) := by decide +kernel
theorem dX5_read_64 : decode cX5_read 64 = .ok (.iload_n 3, 1) := by decide +kernel
theorem dX5_read_65 : decode cX5_read 65 = .ok (.iconst 0, 1) := by decide +kernel
theorem dX5_read_66 : decode cX5_read 66 = .ok (.iload 6, 2) := by decide +kernel
theorem dX5_read_68 : decode cX5_read 68 = .ok (.bipush 8, 2) := by decide +kernel
theorem dX5_read_70 : decode cX5_read 70 = .ok (.idiv, 1) := by decide +kernel
theorem dX5_read_71 : decode cX5_read 71 = .ok (.invokevirtual 93, 3) := by decide +kernel
theorem dX5_read_74 : decode cX5_read 74 = .ok (.aload_n 0, 1) := by decide +kernel
theorem dX5_read_75 : decode cX5_read 75 = .ok (.iload_n 3, 1) := by decide +kernel
theorem dX5_read_76 : decode cX5_read 76 = .ok (.iconst 3, 1) := by decide +kernel
theorem dX5_read_77 : decode cX5_read 77 = .ok (.iload 6, 2) := by decide +kernel
theorem dX5_read_79 : decode cX5_read 79 = .ok (.bipush 8, 2) := by decide +kernel
theorem dX5_read_81 : decode cX5_read 81 = .ok (.irem, 1) := by decide +kernel
theorem dX5_read_82 : decode cX5_read 82 = .ok (.invokevirtual 93, 3) := by decide +kernel
theorem dX5_read_85 : decode cX5_read 85 = .ok (.iload 5, 2) := by decide +kernel
theorem dX5_read_87 : decode cX5_read 87 = .ok (.aload_n 0, 1) := by decide +kernel
theorem dX5_read_88 : decode cX5_read 88 = .ok (.iload_n 1, 1) := by decide +kernel
theorem dX5_read_89 : decode cX5_read 89 = .ok (.iload_n 2, 1) := by decide +kernel
theorem dX5_read_90 : decode cX5_read 90 = .ok (.invokevirtual 285, 3) := by decide +kernel
theorem dX5_read_93 : decode cX5_read 93 = .ok (.ifCond .eq 7, 3) := by decide +kernel
theorem dX5_read_96 : decode cX5_read 96 = .ok (.iconst 1, 1) := by decide +kernel
theorem dX5_read_97 : decode cX5_read 97 = .ok (.goto 4, 3) := by decide +kernel
theorem dX5_read_100 : decode cX5_read 100 = .ok (.iconst 0, 1) := by decide +kernel
theorem dX5_read_101 : decode cX5_read 101 = .ok (.iadd, 1) := by decide +kernel
theorem dX5_read_102 : decode cX5_read 102 = .ok (.istore 5, 2) := by decide +kernel
theorem dX5_read_104 : decode cX5_read 104 = .ok (.aload_n 0, 1) := by decide +kernel
theorem dX5_read_105 : decode cX5_read 105 = .ok (.iconst 0, 1) := by decide +kernel
theorem dX5_read_106 : decode cX5_read 106 = .ok (.aload_n 0, 1) := by decide +kernel
theorem dX5_read_107 : decode cX5_read 107 = .ok (.getfield 19, 3) := by decide +kernel
theorem dX5_read_110 : decode cX5_read 110 = .ok (.invokevirtual 147, 3) := by decide +kernel
theorem dX5_read_113 : decode cX5_read 113 = .ok (.iinc 6 1, 3) := by decide +kernel
theorem dX5_read_116 : decode cX5_read 116 = .ok (.goto (-60), 3) := by decide +kernel
theorem dX5_read_119 : decode cX5_read 119 = .ok (.iload 5, 2) := by decide +kernel
theorem dX5_read_121 : decode cX5_read 121 = .ok (.ireturn, 1) := by decide +kernel
theorem dX5_moveAll_0 : decode cX5_moveAll 0 = .ok (.iconst 0, 1) := by decide +kernel
theorem dX5_moveAll_1 : decode cX5_moveAll 1 = .ok (.istore_n 3, 1) := by decide +kernel
theorem dX5_moveAll_2 : decode cX5_moveAll 2 = .ok (.iload_n 3, 1) := by decide +kernel
theorem dX5_moveAll_3 : decode cX5_moveAll 3 = .ok (.bipush 51, 2) := by decide +kernel
theorem dX5_moveAll_5 : decode cX5_moveAll 5 = .ok (.if_icmp .ge 34, 3) := by decide +kernel
theorem dX5_moveAll_8 : decode cX5_moveAll 8 = .ok (.iload_n 1, 1) := by decide +kernel
theorem dX5_moveAll_9 : decode cX5_moveAll 9 = .ok (.ifCond .eq 15, 3) := by decide +kernel
theorem dX5_moveAll_12 : decode cX5_moveAll 12 = .ok (.aload_n 2, 1) := by decide +kernel
theorem dX5_moveAll_13 : decode cX5_moveAll 13 = .ok (.iload_n 3, 1) := by decide +kernel
theorem dX5_moveAll_14 : decode cX5_moveAll 14 = .ok (.aload_n 0, 1) := by decide +kernel
theorem dX5_moveAll_15 : decode cX5_moveAll 15 = .ok (.getfield 7, 3) := by decide +kernel
theorem dX5_moveAll_18 : decode cX5_moveAll 18 = .ok (.iload_n 3, 1) := by decide +kernel
theorem dX5_moveAll_19 : decode cX5_moveAll 19 = .ok (.iaload, 1) := by decide +kernel
theorem dX5_moveAll_20 : decode cX5_moveAll 20 = .ok (.iastore, 1) := by decide +kernel
theorem dX5_moveAll_21 : decode cX5_moveAll 21 = .ok (.goto 12, 3) := by decide +kernel
theorem dX5_moveAll_24 : decode cX5_moveAll 24 = .ok (.aload_n 0, 1) := by decide +kernel
theorem dX5_moveAll_25 : decode cX5_moveAll 25 = .ok (.getfield 7, 3) := by decide +kernel
theorem dX5_moveAll_28 : decode cX5_moveAll 28 = .ok (.iload_n 3, 1) := by decide +kernel
theorem dX5_moveAll_29 : decode cX5_moveAll 29 = .ok (.aload_n 2, 1) := by decide +kernel
theorem dX5_moveAll_30 : decode cX5_moveAll 30 = .ok (.iload_n 3, 1) := by decide +kernel
theorem dX5_moveAll_31 : decode cX5_moveAll 31 = .ok (.iaload, 1) := by decide +kernel
theorem dX5_moveAll_32 : decode cX5_moveAll 32 = .ok (.iastore, 1) := by decide +kernel
theorem dX5_moveAll_33 : decode cX5_moveAll 33 = .ok (.iinc 3 1, 3) := by decide +kernel
theorem dX5_moveAll_36 : decode cX5_moveAll 36 = .ok (.goto (-34), 3) := by decide +kernel
theorem dX5_moveAll_39 : decode cX5_moveAll 39 = .ok (.return_, 1) := by decide +kernel
theorem dX5_image_0 : decode cX5_image 0 = .ok (.aload_n 0, 1) := by decide +kernel
theorem dX5_image_1 : decode cX5_image 1 = .ok (.iconst 1, 1) := by decide +kernel
theorem dX5_image_2 : decode cX5_image 2 = .ok (.aload_n 0, 1) := by decide +kernel
theorem dX5_image_3 : decode cX5_image 3 = .ok (.getfield 38, 3) := by decide +kernel
theorem dX5_image_6 : decode cX5_image 6 = .ok (.invokevirtual 147, 3) := by decide +kernel
theorem dX5_image_9 : decode cX5_image 9 = .ok (.aload_n 0, 1) := by decide +kernel
theorem dX5_image_10 : decode cX5_image 10 = .ok (.iconst 1, 1) := by decide +kernel
theorem dX5_image_11 : decode cX5_image 11 = .ok (.putfield 288, 3) := by decide +kernel
theorem dX5_image_14 : decode cX5_image 14 = .ok (.iconst 1, 1) := by decide +kernel
theorem dX5_image_15 : decode cX5_image 15 = .ok (.ireturn, 1) := by decide +kernel
theorem dX5_undo_0 : decode cX5_undo 0 = .ok (.aload_n 0, 1) := by decide +kernel
theorem dX5_undo_1 : decode cX5_undo 1 = .ok (.getfield 288, 3) := by decide +kernel
theorem dX5_undo_4 : decode cX5_undo 4 = .ok (.ifCond .ne 10, 3) := by decide +kernel
theorem dX5_undo_7 : decode cX5_undo 7 = .ok (.aload_n 0, 1) := by decide +kernel
theorem dX5_undo_8 : decode cX5_undo 8 = .ok (.ldc 154, 2) := by decide +kernel
theorem dX5_undo_10 : decode cX5_undo 10 = .ok (.invokevirtual 57, 3) := by decide +kernel
theorem dX5_undo_13 : decode cX5_undo 13 = .ok (.ireturn, 1) := by decide +kernel
theorem dX5_undo_14 : decode cX5_undo 14 = .ok (.aload_n 0, 1) := by decide +kernel
theorem dX5_undo_15 : decode cX5_undo 15 = .ok (.iconst 0, 1) := by decide +kernel
theorem dX5_undo_16 : decode cX5_undo 16 = .ok (.aload_n 0, 1) := by decide +kernel
theorem dX5_undo_17 : decode cX5_undo 17 = .ok (.getfield 38, 3) := by decide +kernel
theorem dX5_undo_20 : decode cX5_undo 20 = .ok (.invokevirtual 147, 3) := by decide +kernel
theorem dX5_undo_23 : decode cX5_undo 23 = .ok (.aload_n 0, 1) := by decide +kernel
theorem dX5_undo_24 : decode cX5_undo 24 = .ok (.getfield 7, 3) := by decide +kernel
theorem dX5_undo_27 : decode cX5_undo 27 = .ok (.iconst 2, 1) := by decide +kernel
theorem dX5_undo_28 : decode cX5_undo 28 = .ok (.iaload, 1) := by decide +kernel
theorem dX5_undo_29 : decode cX5_undo 29 = .ok (.ireturn, 1) := by decide +kernel
theorem dX5_tear_0 : decode cX5_tear 0 = .ok (.aload_n 0, 1) := by decide +kernel
theorem dX5_tear_1 : decode cX5_tear 1 = .ok (.getfield 288, 3) := by decide +kernel
theorem dX5_tear_4 : decode cX5_tear 4 = .ok (.ifCond .eq 7, 3) := by decide +kernel
theorem dX5_tear_7 : decode cX5_tear 7 = .ok (.iconst 1, 1) := by decide +kernel
theorem dX5_tear_8 : decode cX5_tear 8 = .ok (.goto 4, 3) := by decide +kernel
theorem dX5_tear_11 : decode cX5_tear 11 = .ok (.iconst 0, 1) := by decide +kernel
theorem dX5_tear_12 : decode cX5_tear 12 = .ok (.istore_n 1, 1) := by decide +kernel
theorem dX5_tear_13 : decode cX5_tear 13 = .ok (.aload_n 0, 1) := by decide +kernel
theorem dX5_tear_14 : decode cX5_tear 14 = .ok (.iconst 0, 1) := by decide +kernel
theorem dX5_tear_15 : decode cX5_tear 15 = .ok (.putfield 288, 3) := by decide +kernel
theorem dX5_tear_18 : decode cX5_tear 18 = .ok (.iload_n 1, 1) := by decide +kernel
theorem dX5_tear_19 : decode cX5_tear 19 = .ok (.ireturn, 1) := by decide +kernel
theorem dX5_grimeOfAll_0 : decode cX5_grimeOfAll 0 = .ok (.iconst 0, 1) := by decide +kernel
theorem dX5_grimeOfAll_1 : decode cX5_grimeOfAll 1 = .ok (.istore_n 1, 1) := by decide +kernel
theorem dX5_grimeOfAll_2 : decode cX5_grimeOfAll 2 = .ok (.iconst 0, 1) := by decide +kernel
theorem dX5_grimeOfAll_3 : decode cX5_grimeOfAll 3 = .ok (.istore_n 2, 1) := by decide +kernel
theorem dX5_grimeOfAll_4 : decode cX5_grimeOfAll 4 = .ok (.iload_n 2, 1) := by decide +kernel
theorem dX5_grimeOfAll_5 : decode cX5_grimeOfAll 5 = .ok (.aload_n 0, 1) := by decide +kernel
theorem dX5_grimeOfAll_6 : decode cX5_grimeOfAll 6 = .ok (.getfield 7, 3) := by decide +kernel
theorem dX5_grimeOfAll_9 : decode cX5_grimeOfAll 9 = .ok (.iconst 2, 1) := by decide +kernel
theorem dX5_grimeOfAll_10 : decode cX5_grimeOfAll 10 = .ok (.iaload, 1) := by decide +kernel
theorem dX5_grimeOfAll_11 : decode cX5_grimeOfAll 11 = .ok (.if_icmp .ge 18, 3) := by decide +kernel
theorem dX5_grimeOfAll_14 : decode cX5_grimeOfAll 14 = .ok (.iload_n 1, 1) := by decide +kernel
theorem dX5_grimeOfAll_15 : decode cX5_grimeOfAll 15 = .ok (.aload_n 0, 1) := by decide +kernel
theorem dX5_grimeOfAll_16 : decode cX5_grimeOfAll 16 = .ok (.iload_n 2, 1) := by decide +kernel
theorem dX5_grimeOfAll_17 : decode cX5_grimeOfAll 17 = .ok (.iconst 2, 1) := by decide +kernel
theorem dX5_grimeOfAll_18 : decode cX5_grimeOfAll 18 = .ok (.invokevirtual 65, 3) := by decide +kernel
theorem dX5_grimeOfAll_21 : decode cX5_grimeOfAll 21 = .ok (.iadd, 1) := by decide +kernel
theorem dX5_grimeOfAll_22 : decode cX5_grimeOfAll 22 = .ok (.istore_n 1, 1) := by decide +kernel
theorem dX5_grimeOfAll_23 : decode cX5_grimeOfAll 23 = .ok (.iinc 2 1, 3) := by decide +kernel
theorem dX5_grimeOfAll_26 : decode cX5_grimeOfAll 26 = .ok (.goto (-22), 3) := by decide +kernel
theorem dX5_grimeOfAll_29 : decode cX5_grimeOfAll 29 = .ok (.iload_n 1, 1) := by decide +kernel
theorem dX5_grimeOfAll_30 : decode cX5_grimeOfAll 30 = .ok (.ireturn, 1) := by decide +kernel
theorem dX5_count_0 : decode cX5_count 0 = .ok (.iload_n 1, 1) := by decide +kernel
theorem dX5_count_1 : decode cX5_count 1 = .ok (.tableswitch 53 0 3 #[31, 38, 43, 48], 31) := by decide +kernel
theorem dX5_count_32 : decode cX5_count 32 = .ok (.aload_n 0, 1) := by decide +kernel
theorem dX5_count_33 : decode cX5_count 33 = .ok (.getfield 7, 3) := by decide +kernel
theorem dX5_count_36 : decode cX5_count 36 = .ok (.iconst 2, 1) := by decide +kernel
theorem dX5_count_37 : decode cX5_count 37 = .ok (.iaload, 1) := by decide +kernel
theorem dX5_count_38 : decode cX5_count 38 = .ok (.ireturn, 1) := by decide +kernel
theorem dX5_count_39 : decode cX5_count 39 = .ok (.aload_n 0, 1) := by decide +kernel
theorem dX5_count_40 : decode cX5_count 40 = .ok (.getfield 174, 3) := by decide +kernel
theorem dX5_count_43 : decode cX5_count 43 = .ok (.ireturn, 1) := by decide +kernel
theorem dX5_count_44 : decode cX5_count 44 = .ok (.aload_n 0, 1) := by decide +kernel
theorem dX5_count_45 : decode cX5_count 45 = .ok (.invokevirtual 161, 3) := by decide +kernel
theorem dX5_count_48 : decode cX5_count 48 = .ok (.ireturn, 1) := by decide +kernel
theorem dX5_count_49 : decode cX5_count 49 = .ok (.aload_n 0, 1) := by decide +kernel
theorem dX5_count_50 : decode cX5_count 50 = .ok (.invokevirtual 291, 3) := by decide +kernel
theorem dX5_count_53 : decode cX5_count 53 = .ok (.ireturn, 1) := by decide +kernel
theorem dX5_count_54 : decode cX5_count 54 = .ok (.aload_n 0, 1) := by decide +kernel
theorem dX5_count_55 : decode cX5_count 55 = .ok (.ldc 48, 2) := by decide +kernel
theorem dX5_count_57 : decode cX5_count 57 = .ok (.invokevirtual 57, 3) := by decide +kernel
theorem dX5_count_60 : decode cX5_count 60 = .ok (.ireturn, 1) := by decide +kernel
theorem dX5_status_0 : decode cX5_status 0 = .ok (.iload_n 1, 1) := by decide +kernel
theorem dX5_status_1 : decode cX5_status 1 = .ok (.iconst (-1), 1) := by decide +kernel
theorem dX5_status_2 : decode cX5_status 2 = .ok (.bipush 6, 2) := by decide +kernel
theorem dX5_status_4 : decode cX5_status 4 = .ok (.invokestatic 49, 3) := by decide +kernel
theorem dX5_status_7 : decode cX5_status 7 = .ok (.ifCond .ne 10, 3) := by decide +kernel
theorem dX5_status_10 : decode cX5_status 10 = .ok (.aload_n 0, 1) := by decide +kernel
theorem dX5_status_11 : decode cX5_status 11 = .ok (.ldc 48, 2) := by decide +kernel
theorem dX5_status_13 : decode cX5_status 13 = .ok (.invokevirtual 57, 3) := by decide +kernel
theorem dX5_status_16 : decode cX5_status 16 = .ok (.ireturn, 1) := by decide +kernel
theorem dX5_status_17 : decode cX5_status 17 = .ok (.iconst 0, 1) := by decide +kernel
theorem dX5_status_18 : decode cX5_status 18 = .ok (.istore_n 2, 1) := by decide +kernel
theorem dX5_status_19 : decode cX5_status 19 = .ok (.iconst 0, 1) := by decide +kernel
theorem dX5_status_20 : decode cX5_status 20 = .ok (.istore_n 3, 1) := by decide +kernel
theorem dX5_status_21 : decode cX5_status 21 = .ok (.iload_n 3, 1) := by decide +kernel
theorem dX5_status_22 : decode cX5_status 22 = .ok (.bipush 7, 2) := by decide +kernel
theorem dX5_status_24 : decode cX5_status 24 = .ok (.if_icmp .ge 18, 3) := by decide +kernel
theorem dX5_status_27 : decode cX5_status 27 = .ok (.iload_n 2, 1) := by decide +kernel
theorem dX5_status_28 : decode cX5_status 28 = .ok (.aload_n 0, 1) := by decide +kernel
theorem dX5_status_29 : decode cX5_status 29 = .ok (.getfield 13, 3) := by decide +kernel
theorem dX5_status_32 : decode cX5_status 32 = .ok (.iload_n 3, 1) := by decide +kernel
theorem dX5_status_33 : decode cX5_status 33 = .ok (.iaload, 1) := by decide +kernel
theorem dX5_status_34 : decode cX5_status 34 = .ok (.iadd, 1) := by decide +kernel
theorem dX5_status_35 : decode cX5_status 35 = .ok (.istore_n 2, 1) := by decide +kernel
theorem dX5_status_36 : decode cX5_status 36 = .ok (.iinc 3 1, 3) := by decide +kernel
theorem dX5_status_39 : decode cX5_status 39 = .ok (.goto (-18), 3) := by decide +kernel
theorem dX5_status_42 : decode cX5_status 42 = .ok (.iload_n 1, 1) := by decide +kernel
theorem dX5_status_43 : decode cX5_status 43 = .ok (.ifCond .ge 7, 3) := by decide +kernel
theorem dX5_status_46 : decode cX5_status 46 = .ok (.iload_n 2, 1) := by decide +kernel
theorem dX5_status_47 : decode cX5_status 47 = .ok (.goto 17, 3) := by decide +kernel
theorem dX5_status_50 : decode cX5_status 50 = .ok (.aload_n 0, 1) := by decide +kernel
theorem dX5_status_51 : decode cX5_status 51 = .ok (.getfield 13, 3) := by decide +kernel
theorem dX5_status_54 : decode cX5_status 54 = .ok (.iload_n 1, 1) := by decide +kernel
theorem dX5_status_55 : decode cX5_status 55 = .ok (.ifCond .ge 7, 3) := by decide +kernel
theorem dX5_status_58 : decode cX5_status 58 = .ok (.iconst 0, 1) := by decide +kernel
theorem dX5_status_59 : decode cX5_status 59 = .ok (.goto 4, 3) := by decide +kernel
theorem dX5_status_62 : decode cX5_status 62 = .ok (.iload_n 1, 1) := by decide +kernel
theorem dX5_status_63 : decode cX5_status 63 = .ok (.iaload, 1) := by decide +kernel
theorem dX5_status_64 : decode cX5_status 64 = .ok (.ireturn, 1) := by decide +kernel
