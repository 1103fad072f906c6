theorem dX5_init_0 : decode cX5_init 0 = .ok (.aload_n 0, 1) := by decide +kernel
theorem dX5_init_1 : decode cX5_init 1 = .ok (.invokespecial 1, 3) := by decide +kernel
theorem dX5_init_4 : decode cX5_init 4 = .ok (.aload_n 0, 1) := by decide +kernel
theorem dX5_init_5 : decode cX5_init 5 = .ok (.bipush 51, 2) := by decide +kernel
theorem dX5_init_7 : decode cX5_init 7 = .ok (.newarray .int, 2) := by decide +kernel
theorem dX5_init_9 : decode cX5_init 9 = .ok (.putfield 7, 3) := by decide +kernel
theorem dX5_init_12 : decode cX5_init 12 = .ok (.aload_n 0, 1) := by decide +kernel
theorem dX5_init_13 : decode cX5_init 13 = .ok (.bipush 7, 2) := by decide +kernel
theorem dX5_init_15 : decode cX5_init 15 = .ok (.newarray .int, 2) := by decide +kernel
theorem dX5_init_17 : decode cX5_init 17 = .ok (.putfield 13, 3) := by decide +kernel
theorem dX5_init_20 : decode cX5_init 20 = .ok (.aload_n 0, 1) := by decide +kernel
theorem dX5_init_21 : decode cX5_init 21 = .ok (.bipush 51, 2) := by decide +kernel
theorem dX5_init_23 : decode cX5_init 23 = .ok (.newarray .int, 2) := by decide +kernel
theorem dX5_init_25 : decode cX5_init 25 = .ok (.putfield 16, 3) := by decide +kernel
theorem dX5_init_28 : decode cX5_init 28 = .ok (.aload_n 0, 1) := by decide +kernel
theorem dX5_init_29 : decode cX5_init 29 = .ok (.bipush 51, 2) := by decide +kernel
theorem dX5_init_31 : decode cX5_init 31 = .ok (.newarray .int, 2) := by decide +kernel
theorem dX5_init_33 : decode cX5_init 33 = .ok (.putfield 19, 3) := by decide +kernel
theorem dX5_init_36 : decode cX5_init 36 = .ok (.aload_n 0, 1) := by decide +kernel
theorem dX5_init_37 : decode cX5_init 37 = .ok (.bipush 120, 2) := by decide +kernel
theorem dX5_init_39 : decode cX5_init 39 = .ok (.newarray .int, 2) := by decide +kernel
theorem dX5_init_41 : decode cX5_init 41 = .ok (.putfield 22, 3) := by decide +kernel
theorem dX5_init_44 : decode cX5_init 44 = .ok (.aload_n 0, 1) := by decide +kernel
theorem dX5_init_45 : decode cX5_init 45 = .ok (.iconst 4, 1) := by decide +kernel
theorem dX5_init_46 : decode cX5_init 46 = .ok (.newarray .int, 2) := by decide +kernel
theorem dX5_init_48 : decode cX5_init 48 = .ok (.putfield 25, 3) := by decide +kernel
theorem dX5_init_51 : decode cX5_init 51 = .ok (.aload_n 0, 1) := by decide +kernel
theorem dX5_init_52 : decode cX5_init 52 = .ok (.iconst 4, 1) := by decide +kernel
theorem dX5_init_53 : decode cX5_init 53 = .ok (.newarray .int, 2) := by decide +kernel
theorem dX5_init_55 : decode cX5_init 55 = .ok (.putfield 28, 3) := by decide +kernel
theorem dX5_init_58 : decode cX5_init 58 = .ok (.aload_n 0, 1) := by decide +kernel
theorem dX5_init_59 : decode cX5_init 59 = .ok (.sipush 160, 3) := by decide +kernel
theorem dX5_init_62 : decode cX5_init 62 = .ok (.newarray .long, 2) := by decide +kernel
theorem dX5_init_64 : decode cX5_init 64 = .ok (.putfield 31, 3) := by decide +kernel
theorem dX5_init_67 : decode cX5_init 67 = .ok (.aload_n 0, 1) := by decide +kernel
theorem dX5_init_68 : decode cX5_init 68 = .ok (.bipush 40, 2) := by decide +kernel
theorem dX5_init_70 : decode cX5_init 70 = .ok (.newarray .long, 2) := by decide +kernel
theorem dX5_init_72 : decode cX5_init 72 = .ok (.putfield 35, 3) := by decide +kernel
theorem dX5_init_75 : decode cX5_init 75 = .ok (.aload_n 0, 1) := by decide +kernel
theorem dX5_init_76 : decode cX5_init 76 = .ok (.bipush 51, 2) := by decide +kernel
theorem dX5_init_78 : decode cX5_init 78 = .ok (.newarray .int, 2) := by decide +kernel
theorem dX5_init_80 : decode cX5_init 80 = .ok (.putfield 38, 3) := by decide +kernel
theorem dX5_init_83 : decode cX5_init 83 = .ok (.aload_n 0, 1) := by decide +kernel
theorem dX5_init_84 : decode cX5_init 84 = .ok (.bipush 51, 2) := by decide +kernel
theorem dX5_init_86 : decode cX5_init 86 = .ok (.newarray .int, 2) := by decide +kernel
theorem dX5_init_88 : decode cX5_init 88 = .ok (.putfield 41, 3) := by decide +kernel
theorem dX5_init_91 : decode cX5_init 91 = .ok (.aload_n 0, 1) := by decide +kernel
theorem dX5_init_92 : decode cX5_init 92 = .ok (.getfield 7, 3) := by decide +kernel
theorem dX5_init_95 : decode cX5_init 95 = .ok (.iconst 1, 1) := by decide +kernel
theorem dX5_init_96 : decode cX5_init 96 = .ok (.iconst 3, 1) := by decide +kernel
theorem dX5_init_97 : decode cX5_init 97 = .ok (.iastore, 1) := by decide +kernel
theorem dX5_init_98 : decode cX5_init 98 = .ok (.iconst 0, 1) := by decide +kernel
theorem dX5_init_99 : decode cX5_init 99 = .ok (.istore_n 1, 1) := by decide +kernel
theorem dX5_init_100 : decode cX5_init 100 = .ok (.iload_n 1, 1) := by decide +kernel
theorem dX5_init_101 : decode cX5_init 101 = .ok (.bipush 8, 2) := by decide +kernel
theorem dX5_init_103 : decode cX5_init 103 = .ok (.if_icmp .ge 17, 3) := by decide +kernel
theorem dX5_init_106 : decode cX5_init 106 = .ok (.aload_n 0, 1) := by decide +kernel
theorem dX5_init_107 : decode cX5_init 107 = .ok (.iload_n 1, 1) := by decide +kernel
theorem dX5_init_108 : decode cX5_init 108 = .ok (.iconst 0, 1) := by decide +kernel
theorem dX5_init_109 : decode cX5_init 109 = .ok (.bipush 20, 2) := by decide +kernel
theorem dX5_init_111 : decode cX5_init 111 = .ok (.invokevirtual 44, 3) := by decide +kernel
theorem dX5_init_114 : decode cX5_init 114 = .ok (.iinc 1 1, 3) := by decide +kernel
theorem dX5_init_117 : decode cX5_init 117 = .ok (.goto (-17), 3) := by decide +kernel
theorem dX5_init_120 : decode cX5_init 120 = .ok (.return_, 1) := by decide +kernel
theorem dX5_in_0 : decode cX5_in 0 = .ok (.iload_n 0, 1) := by decide +kernel
theorem dX5_in_1 : decode cX5_in 1 = .ok (.iload_n 1, 1) := by decide +kernel
theorem dX5_in_2 : decode cX5_in 2 = .ok (.if_icmp .lt 12, 3) := by decide +kernel
theorem dX5_in_5 : decode cX5_in 5 = .ok (.iload_n 0, 1) := by decide +kernel
theorem dX5_in_6 : decode cX5_in 6 = .ok (.iload_n 2, 1) := by decide +kernel
theorem dX5_in_7 : decode cX5_in 7 = .ok (.if_icmp .gt 7, 3) := by decide +kernel
theorem dX5_in_10 : decode cX5_in 10 = .ok (.iconst 1, 1) := by decide +kernel
theorem dX5_in_11 : decode cX5_in 11 = .ok (.goto 4, 3) := by decide +kernel
theorem dX5_in_14 : decode cX5_in 14 = .ok (.iconst 0, 1) := by decide +kernel
theorem dX5_in_15 : decode cX5_in 15 = .ok (.ireturn, 1) := by decide +kernel
theorem dX5_finds_0 : decode cX5_finds 0 = .ok (.aload_n 0, 1) := by decide +kernel
theorem dX5_finds_1 : decode cX5_finds 1 = .ok (.getfield 13, 3) := by decide +kernel
theorem dX5_finds_4 : decode cX5_finds 4 = .ok (.ldc 48, 2) := by decide +kernel
theorem dX5_finds_6 : decode cX5_finds 6 = .ok (.iload_n 1, 1) := by decide +kernel
theorem dX5_finds_7 : decode cX5_finds 7 = .ok (.isub, 1) := by decide +kernel
theorem dX5_finds_8 : decode cX5_finds 8 = .ok (.dup2, 1) := by decide +kernel
theorem dX5_finds_9 : decode cX5_finds 9 = .ok (.iaload, 1) := by decide +kernel
theorem dX5_finds_10 : decode cX5_finds 10 = .ok (.iconst 1, 1) := by decide +kernel
theorem dX5_finds_11 : decode cX5_finds 11 = .ok (.iadd, 1) := by decide +kernel
theorem dX5_finds_12 : decode cX5_finds 12 = .ok (.iastore, 1) := by decide +kernel
theorem dX5_finds_13 : decode cX5_finds 13 = .ok (.iload_n 1, 1) := by decide +kernel
theorem dX5_finds_14 : decode cX5_finds 14 = .ok (.ireturn, 1) := by decide +kernel
theorem dX5_held_0 : decode cX5_held 0 = .ok (.iload_n 0, 1) := by decide +kernel
theorem dX5_held_1 : decode cX5_held 1 = .ok (.iload_n 1, 1) := by decide +kernel
theorem dX5_held_2 : decode cX5_held 2 = .ok (.if_icmp .ge 7, 3) := by decide +kernel
theorem dX5_held_5 : decode cX5_held 5 = .ok (.iload_n 1, 1) := by decide +kernel
theorem dX5_held_6 : decode cX5_held 6 = .ok (.goto 13, 3) := by decide +kernel
theorem dX5_held_9 : decode cX5_held 9 = .ok (.iload_n 0, 1) := by decide +kernel
theorem dX5_held_10 : decode cX5_held 10 = .ok (.iload_n 2, 1) := by decide +kernel
theorem dX5_held_11 : decode cX5_held 11 = .ok (.if_icmp .le 7, 3) := by decide +kernel
theorem dX5_held_14 : decode cX5_held 14 = .ok (.iload_n 2, 1) := by decide +kernel
theorem dX5_held_15 : decode cX5_held 15 = .ok (.goto 4, 3) := by decide +kernel
theorem dX5_held_18 : decode cX5_held 18 = .ok (.iload_n 0, 1) := by decide +kernel
theorem dX5_held_19 : decode cX5_held 19 = .ok (.ireturn, 1) := by decide +kernel
theorem dX5_its_0 : decode cX5_its 0 = .ok (.aload_n 0, 1) := by decide +kernel
theorem dX5_its_1 : decode cX5_its 1 = .ok (.getfield 7, 3) := by decide +kernel
theorem dX5_its_4 : decode cX5_its 4 = .ok (.bipush 19, 2) := by decide +kernel
theorem dX5_its_6 : decode cX5_its 6 = .ok (.iconst 4, 1) := by decide +kernel
theorem dX5_its_7 : decode cX5_its 7 = .ok (.iload_n 1, 1) := by decide +kernel
theorem dX5_its_8 : decode cX5_its 8 = .ok (.imul, 1) := by decide +kernel
theorem dX5_its_9 : decode cX5_its 9 = .ok (.iadd, 1) := by decide +kernel
theorem dX5_its_10 : decode cX5_its 10 = .ok (.iload_n 2, 1) := by decide +kernel
theorem dX5_its_11 : decode cX5_its 11 = .ok (.iadd, 1) := by decide +kernel
theorem dX5_its_12 : decode cX5_its 12 = .ok (.iaload, 1) := by decide +kernel
theorem dX5_its_13 : decode cX5_its 13 = .ok (.ireturn, 1) := by decide +kernel
theorem dX5_puts_0 : decode cX5_puts 0 = .ok (.aload_n 0, 1) := by decide +kernel
theorem dX5_puts_1 : decode cX5_puts 1 = .ok (.getfield 7, 3) := by decide +kernel
theorem dX5_puts_4 : decode cX5_puts 4 = .ok (.bipush 19, 2) := by decide +kernel
theorem dX5_puts_6 : decode cX5_puts 6 = .ok (.iconst 4, 1) := by decide +kernel
theorem dX5_puts_7 : decode cX5_puts 7 = .ok (.iload_n 1, 1) := by decide +kernel
theorem dX5_puts_8 : decode cX5_puts 8 = .ok (.imul, 1) := by decide +kernel
theorem dX5_puts_9 : decode cX5_puts 9 = .ok (.iadd, 1) := by decide +kernel
theorem dX5_puts_10 : decode cX5_puts 10 = .ok (.iload_n 2, 1) := by decide +kernel
theorem dX5_puts_11 : decode cX5_puts 11 = .ok (.iadd, 1) := by decide +kernel
theorem dX5_puts_12 : decode cX5_puts 12 = .ok (.iload_n 3, 1) := by decide +kernel
theorem dX5_puts_13 : decode cX5_puts 13 = .ok (.iastore, 1) := by decide +kernel
theorem dX5_puts_14 : decode cX5_puts 14 = .ok (.return_, 1) := by decide +kernel
theorem dX5_there_0 : decode cX5_there 0 = .ok (.aload_n 0, 1) := by decide +kernel
theorem dX5_there_1 : decode cX5_there 1 = .ok (.getfield 7, 3) := by decide +kernel
theorem dX5_there_4 : decode cX5_there 4 = .ok (.iconst 3, 1) := by decide +kernel
theorem dX5_there_5 : decode cX5_there 5 = .ok (.iconst 2, 1) := by decide +kernel
theorem dX5_there_6 : decode cX5_there 6 = .ok (.iload_n 1, 1) := by decide +kernel
theorem dX5_there_7 : decode cX5_there 7 = .ok (.imul, 1) := by decide +kernel
theorem dX5_there_8 : decode cX5_there 8 = .ok (.iadd, 1) := by decide +kernel
theorem dX5_there_9 : decode cX5_there 9 = .ok (.iload_n 2, 1) := by decide +kernel
theorem dX5_there_10 : decode cX5_there 10 = .ok (.iadd, 1) := by decide +kernel
theorem dX5_there_11 : decode cX5_there 11 = .ok (.iaload, 1) := by decide +kernel
theorem dX5_there_12 : decode cX5_there 12 = .ok (.ireturn, 1) := by decide +kernel
theorem dX5_places_0 : decode cX5_places 0 = .ok (.aload_n 0, 1) := by decide +kernel
theorem dX5_places_1 : decode cX5_places 1 = .ok (.getfield 7, 3) := by decide +kernel
theorem dX5_places_4 : decode cX5_places 4 = .ok (.iconst 3, 1) := by decide +kernel
theorem dX5_places_5 : decode cX5_places 5 = .ok (.iconst 2, 1) := by decide +kernel
theorem dX5_places_6 : decode cX5_places 6 = .ok (.iload_n 1, 1) := by decide +kernel
theorem dX5_places_7 : decode cX5_places 7 = .ok (.imul, 1) := by decide +kernel
theorem dX5_places_8 : decode cX5_places 8 = .ok (.iadd, 1) := by decide +kernel
theorem dX5_places_9 : decode cX5_places 9 = .ok (.iload_n 2, 1) := by decide +kernel
theorem dX5_places_10 : decode cX5_places 10 = .ok (.iadd, 1) := by decide +kernel
theorem dX5_places_11 : decode cX5_places 11 = .ok (.iload_n 3, 1) := by decide +kernel
theorem dX5_places_12 : decode cX5_places 12 = .ok (.iastore, 1) := by decide +kernel
theorem dX5_places_13 : decode cX5_places 13 = .ok (.return_, 1) := by decide +kernel
theorem dX5_becomes_0 : decode cX5_becomes 0 = .ok (.aload_n 0, 1) := by decide +kernel
theorem dX5_becomes_1 : decode cX5_becomes 1 = .ok (.getfield 7, 3) := by decide +kernel
theorem dX5_becomes_4 : decode cX5_becomes 4 = .ok (.iload_n 1, 1) := by decide +kernel
theorem dX5_becomes_5 : decode cX5_becomes 5 = .ok (.iaload, 1) := by decide +kernel
theorem dX5_becomes_6 : decode cX5_becomes 6 = .ok (.istore_n 3, 1) := by decide +kernel
theorem dX5_becomes_7 : decode cX5_becomes 7 = .ok (.aload_n 0, 1) := by decide +kernel
theorem dX5_becomes_8 : decode cX5_becomes 8 = .ok (.getfield 7, 3) := by decide +kernel
theorem dX5_becomes_11 : decode cX5_becomes 11 = .ok (.iload_n 1, 1) := by decide +kernel
theorem dX5_becomes_12 : decode cX5_becomes 12 = .ok (.iload_n 2, 1) := by decide +kernel
theorem dX5_becomes_13 : decode cX5_becomes 13 = .ok (.iastore, 1) := by decide +kernel
theorem dX5_becomes_14 : decode cX5_becomes 14 = .ok (.iload_n 3, 1) := by decide +kernel
theorem dX5_becomes_15 : decode cX5_becomes 15 = .ok (.ireturn, 1) := by decide +kernel
theorem dX5_isOne_0 : decode cX5_isOne 0 = .ok (.iload_n 1, 1) := by decide +kernel
theorem dX5_isOne_1 : decode cX5_isOne 1 = .ok (.iconst 0, 1) := by decide +kernel
theorem dX5_isOne_2 : decode cX5_isOne 2 = .ok (.aload_n 0, 1) := by decide +kernel
theorem dX5_isOne_3 : decode cX5_isOne 3 = .ok (.getfield 7, 3) := by decide +kernel
theorem dX5_isOne_6 : decode cX5_isOne 6 = .ok (.iconst 2, 1) := by decide +kernel
theorem dX5_isOne_7 : decode cX5_isOne 7 = .ok (.iaload, 1) := by decide +kernel
theorem dX5_isOne_8 : decode cX5_isOne 8 = .ok (.iconst 1, 1) := by decide +kernel
theorem dX5_isOne_9 : decode cX5_isOne 9 = .ok (.isub, 1) := by decide +kernel
theorem dX5_isOne_10 : decode cX5_isOne 10 = .ok (.invokestatic 49, 3) := by decide +kernel
theorem dX5_isOne_13 : decode cX5_isOne 13 = .ok (.ireturn, 1) := by decide +kernel
theorem dX5_isKind_0 : decode cX5_isKind 0 = .ok (.iload_n 0, 1) := by decide +kernel
theorem dX5_isKind_1 : decode cX5_isKind 1 = .ok (.iconst 0, 1) := by decide +kernel
theorem dX5_isKind_2 : decode cX5_isKind 2 = .ok (.iconst 5, 1) := by decide +kernel
theorem dX5_isKind_3 : decode cX5_isKind 3 = .ok (.invokestatic 49, 3) := by decide +kernel
theorem dX5_isKind_6 : decode cX5_isKind 6 = .ok (.ireturn, 1) := by decide +kernel
theorem dX5_isRoom_0 : decode cX5_isRoom 0 = .ok (.iload_n 0, 1) := by decide +kernel
theorem dX5_isRoom_1 : decode cX5_isRoom 1 = .ok (.iconst 0, 1) := by decide +kernel
theorem dX5_isRoom_2 : decode cX5_isRoom 2 = .ok (.bipush 7, 2) := by decide +kernel
theorem dX5_isRoom_4 : decode cX5_isRoom 4 = .ok (.invokestatic 49, 3) := by decide +kernel
theorem dX5_isRoom_7 : decode cX5_isRoom 7 = .ok (.ireturn, 1) := by decide +kernel
theorem dX5_isMemory_0 : decode cX5_isMemory 0 = .ok (.iload_n 0, 1) := by decide +kernel
theorem dX5_isMemory_1 : decode cX5_isMemory 1 = .ok (.iconst 0, 1) := by decide +kernel
theorem dX5_isMemory_2 : decode cX5_isMemory 2 = .ok (.bipush 9, 2) := by decide +kernel
theorem dX5_isMemory_4 : decode cX5_isMemory 4 = .ok (.invokestatic 49, 3) := by decide +kernel
theorem dX5_isMemory_7 : decode cX5_isMemory 7 = .ok (.ireturn, 1) := by decide +kernel
theorem dX5_bits_0 : decode cX5_bits 0 = .ok (.iconst 0, 1) := by decide +kernel
theorem dX5_bits_1 : decode cX5_bits 1 = .ok (.istore_n 1, 1) := by decide +kernel
theorem dX5_bits_2 : decode cX5_bits 2 = .ok (.iload_n 0, 1) := by decide +kernel
theorem dX5_bits_3 : decode cX5_bits 3 = .ok (.istore_n 2, 1) := by decide +kernel
theorem dX5_bits_4 : decode cX5_bits 4 = .ok (.iload_n 2, 1) := by decide +kernel
theorem dX5_bits_5 : decode cX5_bits 5 = .ok (.ifCond .eq 15, 3) := by decide +kernel
theorem dX5_bits_8 : decode cX5_bits 8 = .ok (.iinc 1 1, 3) := by decide +kernel
theorem dX5_bits_11 : decode cX5_bits 11 = .ok (.iload_n 2, 1) := by decide +kernel
theorem dX5_bits_12 : decode cX5_bits 12 = .ok (.iload_n 2, 1) := by decide +kernel
theorem dX5_bits_13 : decode cX5_bits 13 = .ok (.iconst 1, 1) := by decide +kernel
theorem dX5_bits_14 : decode cX5_bits 14 = .ok (.isub, 1) := by decide +kernel
theorem dX5_bits_15 : decode cX5_bits 15 = .ok (.iand, 1) := by decide +kernel
theorem dX5_bits_16 : decode cX5_bits 16 = .ok (.istore_n 2, 1) := by decide +kernel
theorem dX5_bits_17 : decode cX5_bits 17 = .ok (.goto (-13), 3) := by decide +kernel
theorem dX5_bits_20 : decode cX5_bits 20 = .ok (.iload_n 1, 1) := by decide +kernel
theorem dX5_bits_21 : decode cX5_bits 21 = .ok (.ireturn, 1) := by decide +kernel
theorem dX5_falls_0 : decode cX5_falls 0 = .ok (.iload_n 1, 1) := by decide +kernel
theorem dX5_falls_1 : decode cX5_falls 1 = .ok (.iconst 0, 1) := by decide +kernel
theorem dX5_falls_2 : decode cX5_falls 2 = .ok (.bipush 20, 2) := by decide +kernel
theorem dX5_falls_4 : decode cX5_falls 4 = .ok (.invokestatic 49, 3) := by decide +kernel
theorem dX5_falls_7 : decode cX5_falls 7 = .ok (.ifCond .eq 12, 3) := by decide +kernel
theorem dX5_falls_10 : decode cX5_falls 10 = .ok (.aload_n 0, 1) := by decide +kernel
theorem dX5_falls_11 : decode cX5_falls 11 = .ok (.iconst 1, 1) := by decide +kernel
theorem dX5_falls_12 : decode cX5_falls 12 = .ok (.iload_n 1, 1) := by decide +kernel
theorem dX5_falls_13 : decode cX5_falls 13 = .ok (.invokevirtual 53, 3) := by decide +kernel
theorem dX5_falls_16 : decode cX5_falls 16 = .ok (.goto 9, 3) := by decide +kernel
theorem dX5_falls_19 : decode cX5_falls 19 = .ok (.aload_n 0, 1) := by decide +kernel
theorem dX5_falls_20 : decode cX5_falls 20 = .ok (.ldc 48, 2) := by decide +kernel
theorem dX5_falls_22 : decode cX5_falls 22 = .ok (.invokevirtual 57, 3) := by decide +kernel
theorem dX5_falls_25 : decode cX5_falls 25 = .ok (.ireturn, 1) := by decide +kernel
theorem dX5_room_0 : decode cX5_room 0 = .ok (.iload_n 2, 1) := by decide +kernel
theorem dX5_room_1 : decode cX5_room 1 = .ok (.ifCond .ne 13, 3) := by decide +kernel
theorem dX5_room_4 : decode cX5_room 4 = .ok (.iload_n 3, 1) := by decide +kernel
theorem dX5_room_5 : decode cX5_room 5 = .ok (.iconst 0, 1) := by decide +kernel
theorem dX5_room_6 : decode cX5_room 6 = .ok (.bipush 99, 2) := by decide +kernel
theorem dX5_room_8 : decode cX5_room 8 = .ok (.invokestatic 49, 3) := by decide +kernel
theorem dX5_room_11 : decode cX5_room 11 = .ok (.goto 24, 3) := by decide +kernel
theorem dX5_room_14 : decode cX5_room 14 = .ok (.iload_n 2, 1) := by decide +kernel
theorem dX5_room_15 : decode cX5_room 15 = .ok (.iconst 1, 1) := by decide +kernel
theorem dX5_room_16 : decode cX5_room 16 = .ok (.if_icmp .ne 18, 3) := by decide +kernel
theorem dX5_room_19 : decode cX5_room 19 = .ok (.iload_n 3, 1) := by decide +kernel
theorem dX5_room_20 : decode cX5_room 20 = .ok (.iconst 0, 1) := by decide +kernel
theorem dX5_room_21 : decode cX5_room 21 = .ok (.sipush 1023, 3) := by decide +kernel
theorem dX5_room_24 : decode cX5_room 24 = .ok (.invokestatic 49, 3) := by decide +kernel
theorem dX5_room_27 : decode cX5_room 27 = .ok (.ifCond .eq 7, 3) := by decide +kernel
theorem dX5_room_30 : decode cX5_room 30 = .ok (.iconst 1, 1) := by decide +kernel
theorem dX5_room_31 : decode cX5_room 31 = .ok (.goto 4, 3) := by decide +kernel
theorem dX5_room_34 : decode cX5_room 34 = .ok (.iconst 0, 1) := by decide +kernel
theorem dX5_room_35 : decode cX5_room 35 = .ok (.istore 4, 2) := by decide +kernel
theorem dX5_room_37 : decode cX5_room 37 = .ok (.iload_n 1, 1) := by decide +kernel
theorem dX5_room_38 : decode cX5_room 38 = .ok (.invokestatic 61, 3) := by decide +kernel
theorem dX5_room_41 : decode cX5_room 41 = .ok (.ifCond .eq 23, 3) := by decide +kernel
theorem dX5_room_44 : decode cX5_room 44 = .ok (.iload 4, 2) := by decide +kernel
theorem dX5_room_46 : decode cX5_room 46 = .ok (.ifCond .eq 18, 3) := by decide +kernel
theorem dX5_room_49 : decode cX5_room 49 = .ok (.aload_n 0, 1) := by decide +kernel
theorem dX5_room_50 : decode cX5_room 50 = .ok (.iconst 3, 1) := by decide +kernel
theorem dX5_room_51 : decode cX5_room 51 = .ok (.iconst 2, 1) := by decide +kernel
theorem dX5_room_52 : decode cX5_room 52 = .ok (.iload_n 1, 1) := by decide +kernel
theorem dX5_room_53 : decode cX5_room 53 = .ok (.imul, 1) := by decide +kernel
theorem dX5_room_54 : decode cX5_room 54 = .ok (.iadd, 1) := by decide +kernel
theorem dX5_room_55 : decode cX5_room 55 = .ok (.iload_n 2, 1) := by decide +kernel
theorem dX5_room_56 : decode cX5_room 56 = .ok (.iadd, 1) := by decide +kernel
theorem dX5_room_57 : decode cX5_room 57 = .ok (.iload_n 3, 1) := by decide +kernel
theorem dX5_room_58 : decode cX5_room 58 = .ok (.invokevirtual 53, 3) := by decide +kernel
theorem dX5_room_61 : decode cX5_room 61 = .ok (.goto 9, 3) := by decide +kernel
theorem dX5_room_64 : decode cX5_room 64 = .ok (.aload_n 0, 1) := by decide +kernel
theorem dX5_room_65 : decode cX5_room 65 = .ok (.ldc 48, 2) := by decide +kernel
theorem dX5_room_67 : decode cX5_room 67 = .ok (.invokevirtual 57, 3) := by decide +kernel
theorem dX5_room_70 : decode cX5_room 70 = .ok (.ireturn, 1) := by decide +kernel
theorem dX5_roomOfOne_0 : decode cX5_roomOfOne 0 = .ok (.aload_n 0, 1) := by decide +kernel
theorem dX5_roomOfOne_1 : decode cX5_roomOfOne 1 = .ok (.getfield 7, 3) := by decide +kernel
theorem dX5_roomOfOne_4 : decode cX5_roomOfOne 4 = .ok (.iconst 0, 1) := by decide +kernel
theorem dX5_roomOfOne_5 : decode cX5_roomOfOne 5 = .ok (.iaload, 1) := by decide +kernel
theorem dX5_roomOfOne_6 : decode cX5_roomOfOne 6 = .ok (.aload_n 0, 1) := by decide +kernel
theorem dX5_roomOfOne_7 : decode cX5_roomOfOne 7 = .ok (.iload_n 1, 1) := by decide +kernel
theorem dX5_roomOfOne_8 : decode cX5_roomOfOne 8 = .ok (.iconst 3, 1) := by decide +kernel
theorem dX5_roomOfOne_9 : decode cX5_roomOfOne 9 = .ok (.invokevirtual 65, 3) := by decide +kernel
theorem dX5_roomOfOne_12 : decode cX5_roomOfOne 12 = .ok (.iadd, 1) := by decide +kernel
theorem dX5_roomOfOne_13 : decode cX5_roomOfOne 13 = .ok (.bipush 8, 2) := by decide +kernel
theorem dX5_roomOfOne_15 : decode cX5_roomOfOne 15 = .ok (.irem, 1) := by decide +kernel
theorem dX5_roomOfOne_16 : decode cX5_roomOfOne 16 = .ok (.ireturn, 1) := by decide +kernel
theorem dX5_inRoom_0 : decode cX5_inRoom 0 = .ok (.iconst 0, 1) := by decide +kernel
theorem dX5_inRoom_1 : decode cX5_inRoom 1 = .ok (.istore_n 2, 1) := by decide +kernel
theorem dX5_inRoom_2 : decode cX5_inRoom 2 = .ok (.iconst 0, 1) := by decide +kernel
theorem dX5_inRoom_3 : decode cX5_inRoom 3 = .ok (.istore_n 3, 1) := by decide +kernel
theorem dX5_inRoom_4 : decode cX5_inRoom 4 = .ok (.iload_n 3, 1) := by decide +kernel
theorem dX5_inRoom_5 : decode cX5_inRoom 5 = .ok (.aload_n 0, 1) := by decide +kernel
theorem dX5_inRoom_6 : decode cX5_inRoom 6 = .ok (.getfield 7, 3) := by decide +kernel
theorem dX5_inRoom_9 : decode cX5_inRoom 9 = .ok (.iconst 2, 1) := by decide +kernel
theorem dX5_inRoom_10 : decode cX5_inRoom 10 = .ok (.iaload, 1) := by decide +kernel
theorem dX5_inRoom_11 : decode cX5_inRoom 11 = .ok (.if_icmp .ge 28, 3) := by decide +kernel
theorem dX5_inRoom_14 : decode cX5_inRoom 14 = .ok (.iload_n 2, 1) := by decide +kernel
theorem dX5_inRoom_15 : decode cX5_inRoom 15 = .ok (.aload_n 0, 1) := by decide +kernel
theorem dX5_inRoom_16 : decode cX5_inRoom 16 = .ok (.iload_n 3, 1) := by decide +kernel
theorem dX5_inRoom_17 : decode cX5_inRoom 17 = .ok (.invokevirtual 68, 3) := by decide +kernel
theorem dX5_inRoom_20 : decode cX5_inRoom 20 = .ok (.iload_n 1, 1) := by decide +kernel
theorem dX5_inRoom_21 : decode cX5_inRoom 21 = .ok (.if_icmp .ne 9, 3) := by decide +kernel
theorem dX5_inRoom_24 : decode cX5_inRoom 24 = .ok (.iconst 1, 1) := by decide +kernel
theorem dX5_inRoom_25 : decode cX5_inRoom 25 = .ok (.iload_n 3, 1) := by decide +kernel
theorem dX5_inRoom_26 : decode cX5_inRoom 26 = .ok (.ishl, 1) := by decide +kernel
theorem dX5_inRoom_27 : decode cX5_inRoom 27 = .ok (.goto 4, 3) := by decide +kernel
theorem dX5_inRoom_30 : decode cX5_inRoom 30 = .ok (.iconst 0, 1) := by decide +kernel
theorem dX5_inRoom_31 : decode cX5_inRoom 31 = .ok (.ior, 1) := by decide +kernel
theorem dX5_inRoom_32 : decode cX5_inRoom 32 = .ok (.istore_n 2, 1) := by decide +kernel
theorem dX5_inRoom_33 : decode cX5_inRoom 33 = .ok (.iinc 3 1, 3) := by decide +kernel
theorem dX5_inRoom_36 : decode cX5_inRoom 36 = .ok (.goto (-32), 3) := by decide +kernel
theorem dX5_inRoom_39 : decode cX5_inRoom 39 = .ok (.iload_n 2, 1) := by decide +kernel
theorem dX5_inRoom_40 : decode cX5_inRoom 40 = .ok (.ireturn, 1) := by decide +kernel
theorem dX5_roomOf_0 : decode cX5_roomOf 0 = .ok (.iload_n 1, 1) := by decide +kernel
theorem dX5_roomOf_1 : decode cX5_roomOf 1 = .ok (.invokestatic 61, 3) := by decide +kernel
theorem dX5_roomOf_4 : decode cX5_roomOf 4 = .ok (.ifCond .eq 12, 3) := by decide +kernel
theorem dX5_roomOf_7 : decode cX5_roomOf 7 = .ok (.iload_n 2, 1) := by decide +kernel
theorem dX5_roomOf_8 : decode cX5_roomOf 8 = .ok (.iconst 0, 1) := by decide +kernel
theorem dX5_roomOf_9 : decode cX5_roomOf 9 = .ok (.iconst 2, 1) := by decide +kernel
theorem dX5_roomOf_10 : decode cX5_roomOf 10 = .ok (.invokestatic 49, 3) := by decide +kernel
theorem dX5_roomOf_13 : decode cX5_roomOf 13 = .ok (.ifCond .ne 10, 3) := by decide +kernel
theorem dX5_roomOf_16 : decode cX5_roomOf 16 = .ok (.aload_n 0, 1) := by decide +kernel
theorem dX5_roomOf_17 : decode cX5_roomOf 17 = .ok (.ldc 48, 2) := by decide +kernel
theorem dX5_roomOf_19 : decode cX5_roomOf 19 = .ok (.invokevirtual 57, 3) := by decide +kernel
theorem dX5_roomOf_22 : decode cX5_roomOf 22 = .ok (.ireturn, 1) := by decide +kernel
theorem dX5_roomOf_23 : decode cX5_roomOf 23 = .ok (.iload_n 2, 1) := by decide +kernel
theorem dX5_roomOf_24 : decode cX5_roomOf 24 = .ok (.iconst 2, 1) := by decide +kernel
theorem dX5_roomOf_25 : decode cX5_roomOf 25 = .ok (.if_icmp .ge 12, 3) := by decide +kernel
theorem dX5_roomOf_28 : decode cX5_roomOf 28 = .ok (.aload_n 0, 1) := by decide +kernel
theorem dX5_roomOf_29 : decode cX5_roomOf 29 = .ok (.iload_n 1, 1) := by decide +kernel
theorem dX5_roomOf_30 : decode cX5_roomOf 30 = .ok (.iload_n 2, 1) := by decide +kernel
theorem dX5_roomOf_31 : decode cX5_roomOf 31 = .ok (.invokevirtual 71, 3) := by decide +kernel
theorem dX5_roomOf_34 : decode cX5_roomOf 34 = .ok (.goto 8, 3) := by decide +kernel
theorem dX5_roomOf_37 : decode cX5_roomOf 37 = .ok (.aload_n 0, 1) := by decide +kernel
theorem dX5_roomOf_38 : decode cX5_roomOf 38 = .ok (.iload_n 1, 1) := by decide +kernel
theorem dX5_roomOf_39 : decode cX5_roomOf 39 = .ok (.invokevirtual 74, 3) := by decide +kernel
theorem dX5_roomOf_42 : decode cX5_roomOf 42 = .ok (.ireturn, 1) := by decide +kernel
theorem dX5_dustOfAll_0 : decode cX5_dustOfAll 0 = .ok (.iconst 0, 1) := by decide +kernel
theorem dX5_dustOfAll_1 : decode cX5_dustOfAll 1 = .ok (.istore_n 1, 1) := by decide +kernel
theorem dX5_dustOfAll_2 : decode cX5_dustOfAll 2 = .ok (.iconst 0, 1) := by decide +kernel
theorem dX5_dustOfAll_3 : decode cX5_dustOfAll 3 = .ok (.istore_n 2, 1) := by decide +kernel
theorem dX5_dustOfAll_4 : decode cX5_dustOfAll 4 = .ok (.iload_n 2, 1) := by decide +kernel
theorem dX5_dustOfAll_5 : decode cX5_dustOfAll 5 = .ok (.bipush 8, 2) := by decide +kernel
theorem dX5_dustOfAll_7 : decode cX5_dustOfAll 7 = .ok (.if_icmp .ge 18, 3) := by decide +kernel
theorem dX5_dustOfAll_10 : decode cX5_dustOfAll 10 = .ok (.iload_n 1, 1) := by decide +kernel
theorem dX5_dustOfAll_11 : decode cX5_dustOfAll 11 = .ok (.aload_n 0, 1) := by decide +kernel
theorem dX5_dustOfAll_12 : decode cX5_dustOfAll 12 = .ok (.iload_n 2, 1) := by decide +kernel
theorem dX5_dustOfAll_13 : decode cX5_dustOfAll 13 = .ok (.iconst 0, 1) := by decide +kernel
theorem dX5_dustOfAll_14 : decode cX5_dustOfAll 14 = .ok (.invokevirtual 71, 3) := by decide +kernel
theorem dX5_dustOfAll_17 : decode cX5_dustOfAll 17 = .ok (.iadd, 1) := by decide +kernel
theorem dX5_dustOfAll_18 : decode cX5_dustOfAll 18 = .ok (.istore_n 1, 1) := by decide +kernel
theorem dX5_dustOfAll_19 : decode cX5_dustOfAll 19 = .ok (.iinc 2 1, 3) := by decide +kernel
theorem dX5_dustOfAll_22 : decode cX5_dustOfAll 22 = .ok (.goto (-18), 3) := by decide +kernel
theorem dX5_dustOfAll_25 : decode cX5_dustOfAll 25 = .ok (.iload_n 1, 1) := by decide +kernel
theorem dX5_dustOfAll_26 : decode cX5_dustOfAll 26 = .ok (.ireturn, 1) := by decide +kernel
theorem dX5_memoriesOfAll_0 : decode cX5_memoriesOfAll 0 = .ok (.iconst 0, 1) := by decide +kernel
theorem dX5_memoriesOfAll_1 : decode cX5_memoriesOfAll 1 = .ok (.istore_n 1, 1) := by decide +kernel
theorem dX5_memoriesOfAll_2 : decode cX5_memoriesOfAll 2 = .ok (.iconst 0, 1) := by decide +kernel
theorem dX5_memoriesOfAll_3 : decode cX5_memoriesOfAll 3 = .ok (.istore_n 2, 1) := by decide +kernel
theorem dX5_memoriesOfAll_4 : decode cX5_memoriesOfAll 4 = .ok (.iload_n 2, 1) := by decide +kernel
theorem dX5_memoriesOfAll_5 : decode cX5_memoriesOfAll 5 = .ok (.bipush 8, 2) := by decide +kernel
theorem dX5_memoriesOfAll_7 : decode cX5_memoriesOfAll 7 = .ok (.if_icmp .ge 21, 3) := by decide +kernel
theorem dX5_memoriesOfAll_10 : decode cX5_memoriesOfAll 10 = .ok (.iload_n 1, 1) := by decide +kernel
theorem dX5_memoriesOfAll_11 : decode cX5_memoriesOfAll 11 = .ok (.aload_n 0, 1) := by decide +kernel
theorem dX5_memoriesOfAll_12 : decode cX5_memoriesOfAll 12 = .ok (.iload_n 2, 1) := by decide +kernel
theorem dX5_memoriesOfAll_13 : decode cX5_memoriesOfAll 13 = .ok (.iconst 1, 1) := by decide +kernel
theorem dX5_memoriesOfAll_14 : decode cX5_memoriesOfAll 14 = .ok (.invokevirtual 71, 3) := by decide +kernel
theorem dX5_memoriesOfAll_17 : decode cX5_memoriesOfAll 17 = .ok (.invokestatic 77, 3) := by decide +kernel
theorem dX5_memoriesOfAll_20 : decode cX5_memoriesOfAll 20 = .ok (.iadd, 1) := by decide +kernel
theorem dX5_memoriesOfAll_21 : decode cX5_memoriesOfAll 21 = .ok (.istore_n 1, 1) := by decide +kernel
theorem dX5_memoriesOfAll_22 : decode cX5_memoriesOfAll 22 = .ok (.iinc 2 1, 3) := by decide +kernel
theorem dX5_memoriesOfAll_25 : decode cX5_memoriesOfAll 25 = .ok (.goto (-21), 3) := by decide +kernel
theorem dX5_memoriesOfAll_28 : decode cX5_memoriesOfAll 28 = .ok (.iload_n 1, 1) := by decide +kernel
theorem dX5_memoriesOfAll_29 : decode cX5_memoriesOfAll 29 = .ok (.ireturn, 1) := by decide +kernel
theorem dX5_common_0 : decode cX5_common 0 = .ok (.sipush 1023, 3) := by decide +kernel
theorem dX5_common_3 : decode cX5_common 3 = .ok (.istore_n 1, 1) := by decide +kernel
theorem dX5_common_4 : decode cX5_common 4 = .ok (.iconst 0, 1) := by decide +kernel
theorem dX5_common_5 : decode cX5_common 5 = .ok (.istore_n 2, 1) := by decide +kernel
theorem dX5_common_6 : decode cX5_common 6 = .ok (.iload_n 2, 1) := by decide +kernel
theorem dX5_common_7 : decode cX5_common 7 = .ok (.bipush 8, 2) := by decide +kernel
theorem dX5_common_9 : decode cX5_common 9 = .ok (.if_icmp .ge 18, 3) := by decide +kernel
theorem dX5_common_12 : decode cX5_common 12 = .ok (.iload_n 1, 1) := by decide +kernel
theorem dX5_common_13 : decode cX5_common 13 = .ok (.aload_n 0, 1) := by decide +kernel
theorem dX5_common_14 : decode cX5_common 14 = .ok (.iload_n 2, 1) := by decide +kernel
theorem dX5_common_15 : decode cX5_common 15 = .ok (.iconst 1, 1) := by decide +kernel
theorem dX5_common_16 : decode cX5_common 16 = .ok (.invokevirtual 71, 3) := by decide +kernel
theorem dX5_common_19 : decode cX5_common 19 = .ok (.iand, 1) := by decide +kernel
theorem dX5_common_20 : decode cX5_common 20 = .ok (.istore_n 1, 1) := by decide +kernel
theorem dX5_common_21 : decode cX5_common 21 = .ok (.iinc 2 1, 3) := by decide +kernel
theorem dX5_common_24 : decode cX5_common 24 = .ok (.goto (-18), 3) := by decide +kernel
theorem dX5_common_27 : decode cX5_common 27 = .ok (.iload_n 1, 1) := by decide +kernel
theorem dX5_common_28 : decode cX5_common 28 = .ok (.ireturn, 1) := by decide +kernel
theorem dX5_anywhere_0 : decode cX5_anywhere 0 = .ok (.iconst 0, 1) := by decide +kernel
theorem dX5_anywhere_1 : decode cX5_anywhere 1 = .ok (.istore_n 1, 1) := by decide +kernel
theorem dX5_anywhere_2 : decode cX5_anywhere 2 = .ok (.iconst 0, 1) := by decide +kernel
theorem dX5_anywhere_3 : decode cX5_anywhere 3 = .ok (.istore_n 2, 1) := by decide +kernel
theorem dX5_anywhere_4 : decode cX5_anywhere 4 = .ok (.iload_n 2, 1) := by decide +kernel
theorem dX5_anywhere_5 : decode cX5_anywhere 5 = .ok (.bipush 8, 2) := by decide +kernel
theorem dX5_anywhere_7 : decode cX5_anywhere 7 = .ok (.if_icmp .ge 18, 3) := by decide +kernel
theorem dX5_anywhere_10 : decode cX5_anywhere 10 = .ok (.iload_n 1, 1) := by decide +kernel
theorem dX5_anywhere_11 : decode cX5_anywhere 11 = .ok (.aload_n 0, 1) := by decide +kernel
theorem dX5_anywhere_12 : decode cX5_anywhere 12 = .ok (.iload_n 2, 1) := by decide +kernel
theorem dX5_anywhere_13 : decode cX5_anywhere 13 = .ok (.iconst 1, 1) := by decide +kernel
theorem dX5_anywhere_14 : decode cX5_anywhere 14 = .ok (.invokevirtual 71, 3) := by decide +kernel
theorem dX5_anywhere_17 : decode cX5_anywhere 17 = .ok (.ior, 1) := by decide +kernel
theorem dX5_anywhere_18 : decode cX5_anywhere 18 = .ok (.istore_n 1, 1) := by decide +kernel
theorem dX5_anywhere_19 : decode cX5_anywhere 19 = .ok (.iinc 2 1, 3) := by decide +kernel
theorem dX5_anywhere_22 : decode cX5_anywhere 22 = .ok (.goto (-18), 3) := by decide +kernel
theorem dX5_anywhere_25 : decode cX5_anywhere 25 = .ok (.iload_n 1, 1) := by decide +kernel
theorem dX5_anywhere_26 : decode cX5_anywhere 26 = .ok (.ireturn, 1) := by decide +kernel
theorem dX5_heldByAny_0 : decode cX5_heldByAny 0 = .ok (.iconst 0, 1) := by decide +kernel
theorem dX5_heldByAny_1 : decode cX5_heldByAny 1 = .ok (.istore_n 1, 1) := by decide +kernel
theorem dX5_heldByAny_2 : decode cX5_heldByAny 2 = .ok (.iconst 0, 1) := by decide +kernel
theorem dX5_heldByAny_3 : decode cX5_heldByAny 3 = .ok (.istore_n 2, 1) := by decide +kernel
theorem dX5_heldByAny_4 : decode cX5_heldByAny 4 = .ok (.iload_n 2, 1) := by decide +kernel
theorem dX5_heldByAny_5 : decode cX5_heldByAny 5 = .ok (.aload_n 0, 1) := by decide +kernel
theorem dX5_heldByAny_6 : decode cX5_heldByAny 6 = .ok (.getfield 7, 3) := by decide +kernel
theorem dX5_heldByAny_9 : decode cX5_heldByAny 9 = .ok (.iconst 2, 1) := by decide +kernel
theorem dX5_heldByAny_10 : decode cX5_heldByAny 10 = .ok (.iaload, 1) := by decide +kernel
theorem dX5_heldByAny_11 : decode cX5_heldByAny 11 = .ok (.if_icmp .ge 18, 3) := by decide +kernel
theorem dX5_heldByAny_14 : decode cX5_heldByAny 14 = .ok (.iload_n 1, 1) := by decide +kernel
theorem dX5_heldByAny_15 : decode cX5_heldByAny 15 = .ok (.aload_n 0, 1) := by decide +kernel
theorem dX5_heldByAny_16 : decode cX5_heldByAny 16 = .ok (.iload_n 2, 1) := by decide +kernel
theorem dX5_heldByAny_17 : decode cX5_heldByAny 17 = .ok (.iconst 1, 1) := by decide +kernel
theorem dX5_heldByAny_18 : decode cX5_heldByAny 18 = .ok (.invokevirtual 65, 3) := by decide +kernel
theorem dX5_heldByAny_21 : decode cX5_heldByAny 21 = .ok (.ior, 1) := by decide +kernel
theorem dX5_heldByAny_22 : decode cX5_heldByAny 22 = .ok (.istore_n 1, 1) := by decide +kernel
theorem dX5_heldByAny_23 : decode cX5_heldByAny 23 = .ok (.iinc 2 1, 3) := by decide +kernel
theorem dX5_heldByAny_26 : decode cX5_heldByAny 26 = .ok (.goto (-22), 3) := by decide +kernel
theorem dX5_heldByAny_29 : decode cX5_heldByAny 29 = .ok (.iload_n 1, 1) := by decide +kernel
theorem dX5_heldByAny_30 : decode cX5_heldByAny 30 = .ok (.ireturn, 1) := by decide +kernel
theorem dX5_now_0 : decode cX5_now 0 = .ok (.iload_n 1, 1) := by decide +kernel
theorem dX5_now_1 : decode cX5_now 1 = .ok (.tableswitch 73 0 5 #[39, 46, 53, 58, 63, 68], 39) := by decide +kernel
theorem dX5_now_40 : decode cX5_now 40 = .ok (.aload_n 0, 1) := by decide +kernel
theorem dX5_now_41 : decode cX5_now 41 = .ok (.getfield 7, 3) := by decide +kernel
theorem dX5_now_44 : decode cX5_now 44 = .ok (.iconst 0, 1) := by decide +kernel
theorem dX5_now_45 : decode cX5_now 45 = .ok (.iaload, 1) := by decide +kernel
theorem dX5_now_46 : decode cX5_now 46 = .ok (.ireturn, 1) := by decide +kernel
theorem dX5_now_47 : decode cX5_now 47 = .ok (.aload_n 0, 1) := by decide +kernel
theorem dX5_now_48 : decode cX5_now 48 = .ok (.getfield 7, 3) := by decide +kernel
theorem dX5_now_51 : decode cX5_now 51 = .ok (.iconst 1, 1) := by decide +kernel
theorem dX5_now_52 : decode cX5_now 52 = .ok (.iaload, 1) := by decide +kernel
theorem dX5_now_53 : decode cX5_now 53 = .ok (.ireturn, 1) := by decide +kernel
theorem dX5_now_54 : decode cX5_now 54 = .ok (.aload_n 0, 1) := by decide +kernel
theorem dX5_now_55 : decode cX5_now 55 = .ok (.invokevirtual 80, 3) := by decide +kernel
theorem dX5_now_58 : decode cX5_now 58 = .ok (.ireturn, 1) := by decide +kernel
theorem dX5_now_59 : decode cX5_now 59 = .ok (.aload_n 0, 1) := by decide +kernel
theorem dX5_now_60 : decode cX5_now 60 = .ok (.invokevirtual 84, 3) := by decide +kernel
theorem dX5_now_63 : decode cX5_now 63 = .ok (.ireturn, 1) := by decide +kernel
theorem dX5_now_64 : decode cX5_now 64 = .ok (.aload_n 0, 1) := by decide +kernel
theorem dX5_now_65 : decode cX5_now 65 = .ok (.invokevirtual 87, 3) := by decide +kernel
theorem dX5_now_68 : decode cX5_now 68 = .ok (.ireturn, 1) := by decide +kernel
theorem dX5_now_69 : decode cX5_now 69 = .ok (.aload_n 0, 1) := by decide +kernel
theorem dX5_now_70 : decode cX5_now 70 = .ok (.invokevirtual 90, 3) := by decide +kernel
theorem dX5_now_73 : decode cX5_now 73 = .ok (.ireturn, 1) := by decide +kernel
theorem dX5_now_74 : decode cX5_now 74 = .ok (.aload_n 0, 1) := by decide +kernel
theorem dX5_now_75 : decode cX5_now 75 = .ok (.ldc 48, 2) := by decide +kernel
theorem dX5_now_77 : decode cX5_now 77 = .ok (.invokevirtual 57, 3) := by decide +kernel
theorem dX5_now_80 : decode cX5_now 80 = .ok (.ireturn, 1) := by decide +kernel
theorem dX5_wipes_0 : decode cX5_wipes 0 = .ok (.aload_n 0, 1) := by decide +kernel
theorem dX5_wipes_1 : decode cX5_wipes 1 = .ok (.iload_n 1, 1) := by decide +kernel
theorem dX5_wipes_2 : decode cX5_wipes 2 = .ok (.iconst 2, 1) := by decide +kernel
theorem dX5_wipes_3 : decode cX5_wipes 3 = .ok (.invokevirtual 65, 3) := by decide +kernel
theorem dX5_wipes_6 : decode cX5_wipes 6 = .ok (.istore_n 2, 1) := by decide +kernel
theorem dX5_wipes_7 : decode cX5_wipes 7 = .ok (.bipush 12, 2) := by decide +kernel
theorem dX5_wipes_9 : decode cX5_wipes 9 = .ok (.iload_n 2, 1) := by decide +kernel
theorem dX5_wipes_10 : decode cX5_wipes 10 = .ok (.bipush 10, 2) := by decide +kernel
theorem dX5_wipes_12 : decode cX5_wipes 12 = .ok (.idiv, 1) := by decide +kernel
theorem dX5_wipes_13 : decode cX5_wipes 13 = .ok (.isub, 1) := by decide +kernel
theorem dX5_wipes_14 : decode cX5_wipes 14 = .ok (.istore_n 3, 1) := by decide +kernel
theorem dX5_wipes_15 : decode cX5_wipes 15 = .ok (.iload_n 2, 1) := by decide +kernel
theorem dX5_wipes_16 : decode cX5_wipes 16 = .ok (.bipush 20, 2) := by decide +kernel
theorem dX5_wipes_18 : decode cX5_wipes 18 = .ok (.if_icmp .ge 9, 3) := by decide +kernel
theorem dX5_wipes_21 : decode cX5_wipes 21 = .ok (.iconst 2, 1) := by decide +kernel
theorem dX5_wipes_22 : decode cX5_wipes 22 = .ok (.iload_n 3, 1) := by decide +kernel
theorem dX5_wipes_23 : decode cX5_wipes 23 = .ok (.imul, 1) := by decide +kernel
theorem dX5_wipes_24 : decode cX5_wipes 24 = .ok (.goto 4, 3) := by decide +kernel
theorem dX5_wipes_27 : decode cX5_wipes 27 = .ok (.iload_n 3, 1) := by decide +kernel
theorem dX5_wipes_28 : decode cX5_wipes 28 = .ok (.istore 4, 2) := by decide +kernel
theorem dX5_wipes_30 : decode cX5_wipes 30 = .ok (.aload_n 0, 1) := by decide +kernel
theorem dX5_wipes_31 : decode cX5_wipes 31 = .ok (.iload_n 1, 1) := by decide +kernel
theorem dX5_wipes_32 : decode cX5_wipes 32 = .ok (.iconst 0, 1) := by decide +kernel
theorem dX5_wipes_33 : decode cX5_wipes 33 = .ok (.invokevirtual 65, 3) := by decide +kernel
theorem dX5_wipes_36 : decode cX5_wipes 36 = .ok (.tableswitch 55 1 5 #[36, 44, 52, 40, 47], 36) := by decide +kernel
theorem dX5_wipes_72 : decode cX5_wipes 72 = .ok (.iload_n 3, 1) := by decide +kernel
theorem dX5_wipes_73 : decode cX5_wipes 73 = .ok (.iconst 3, 1) := by decide +kernel
theorem dX5_wipes_74 : decode cX5_wipes 74 = .ok (.iadd, 1) := by decide +kernel
theorem dX5_wipes_75 : decode cX5_wipes 75 = .ok (.ireturn, 1) := by decide +kernel
theorem dX5_wipes_76 : decode cX5_wipes 76 = .ok (.iload_n 3, 1) := by decide +kernel
theorem dX5_wipes_77 : decode cX5_wipes 77 = .ok (.iconst 2, 1) := by decide +kernel
theorem dX5_wipes_78 : decode cX5_wipes 78 = .ok (.isub, 1) := by decide +kernel
theorem dX5_wipes_79 : decode cX5_wipes 79 = .ok (.ireturn, 1) := by decide +kernel
theorem dX5_wipes_80 : decode cX5_wipes 80 = .ok (.iload 4, 2) := by decide +kernel
theorem dX5_wipes_82 : decode cX5_wipes 82 = .ok (.ireturn, 1) := by decide +kernel
theorem dX5_wipes_83 : decode cX5_wipes 83 = .ok (.iload 4, 2) := by decide +kernel
theorem dX5_wipes_85 : decode cX5_wipes 85 = .ok (.iconst 1, 1) := by decide +kernel
theorem dX5_wipes_86 : decode cX5_wipes 86 = .ok (.isub, 1) := by decide +kernel
theorem dX5_wipes_87 : decode cX5_wipes 87 = .ok (.ireturn, 1) := by decide +kernel
theorem dX5_wipes_88 : decode cX5_wipes 88 = .ok (.bipush 9, 2) := by decide +kernel
theorem dX5_wipes_90 : decode cX5_wipes 90 = .ok (.ireturn, 1) := by decide +kernel
theorem dX5_wipes_91 : decode cX5_wipes 91 = .ok (.iload_n 3, 1) := by decide +kernel
theorem dX5_wipes_92 : decode cX5_wipes 92 = .ok (.ireturn, 1) := by decide +kernel
theorem dX5_takesUp_0 : decode cX5_takesUp 0 = .ok (.aload_n 0, 1) := by decide +kernel
theorem dX5_takesUp_1 : decode cX5_takesUp 1 = .ok (.iload_n 1, 1) := by decide +kernel
theorem dX5_takesUp_2 : decode cX5_takesUp 2 = .ok (.iconst 0, 1) := by decide +kernel
theorem dX5_takesUp_3 : decode cX5_takesUp 3 = .ok (.invokevirtual 65, 3) := by decide +kernel
theorem dX5_takesUp_6 : decode cX5_takesUp 6 = .ok (.tableswitch 58 1 5 #[34, 36, 53, 34, 56], 34) := by decide +kernel
theorem dX5_takesUp_40 : decode cX5_takesUp 40 = .ok (.iconst 2, 1) := by decide +kernel
theorem dX5_takesUp_41 : decode cX5_takesUp 41 = .ok (.ireturn, 1) := by decide +kernel
theorem dX5_takesUp_42 : decode cX5_takesUp 42 = .ok (.aload_n 0, 1) := by decide +kernel
theorem dX5_takesUp_43 : decode cX5_takesUp 43 = .ok (.iload_n 1, 1) := by decide +kernel
theorem dX5_takesUp_44 : decode cX5_takesUp 44 = .ok (.iconst 2, 1) := by decide +kernel
theorem dX5_takesUp_45 : decode cX5_takesUp 45 = .ok (.invokevirtual 65, 3) := by decide +kernel
theorem dX5_takesUp_48 : decode cX5_takesUp 48 = .ok (.bipush 60, 2) := by decide +kernel
theorem dX5_takesUp_50 : decode cX5_takesUp 50 = .ok (.if_icmp .le 7, 3) := by decide +kernel
theorem dX5_takesUp_53 : decode cX5_takesUp 53 = .ok (.iconst 0, 1) := by decide +kernel
theorem dX5_takesUp_54 : decode cX5_takesUp 54 = .ok (.goto 4, 3) := by decide +kernel
theorem dX5_takesUp_57 : decode cX5_takesUp 57 = .ok (.iconst 1, 1) := by decide +kernel
theorem dX5_takesUp_58 : decode cX5_takesUp 58 = .ok (.ireturn, 1) := by decide +kernel
theorem dX5_takesUp_59 : decode cX5_takesUp 59 = .ok (.bipush 9, 2) := by decide +kernel
theorem dX5_takesUp_61 : decode cX5_takesUp 61 = .ok (.ireturn, 1) := by decide +kernel
theorem dX5_takesUp_62 : decode cX5_takesUp 62 = .ok (.iconst 0, 1) := by decide +kernel
theorem dX5_takesUp_63 : decode cX5_takesUp 63 = .ok (.ireturn, 1) := by decide +kernel
theorem dX5_takesUp_64 : decode cX5_takesUp 64 = .ok (.iconst 1, 1) := by decide +kernel
theorem dX5_takesUp_65 : decode cX5_takesUp 65 = .ok (.ireturn, 1) := by decide +kernel
theorem dX5_leaves_0 : decode cX5_leaves 0 = .ok (.aload_n 0, 1) := by decide +kernel
theorem dX5_leaves_1 : decode cX5_leaves 1 = .ok (.iload_n 1, 1) := by decide +kernel
theorem dX5_leaves_2 : decode cX5_leaves 2 = .ok (.iconst 2, 1) := by decide +kernel
theorem dX5_leaves_3 : decode cX5_leaves 3 = .ok (.invokevirtual 65, 3) := by decide +kernel
theorem dX5_leaves_6 : decode cX5_leaves 6 = .ok (.bipush 25, 2) := by decide +kernel
theorem dX5_leaves_8 : decode cX5_leaves 8 = .ok (.idiv, 1) := by decide +kernel
theorem dX5_leaves_9 : decode cX5_leaves 9 = .ok (.istore_n 2, 1) := by decide +kernel
theorem dX5_leaves_10 : decode cX5_leaves 10 = .ok (.aload_n 0, 1) := by decide +kernel
theorem dX5_leaves_11 : decode cX5_leaves 11 = .ok (.iload_n 1, 1) := by decide +kernel
theorem dX5_leaves_12 : decode cX5_leaves 12 = .ok (.iconst 0, 1) := by decide +kernel
theorem dX5_leaves_13 : decode cX5_leaves 13 = .ok (.invokevirtual 65, 3) := by decide +kernel
theorem dX5_leaves_16 : decode cX5_leaves 16 = .ok (.tableswitch 75 1 5 #[36, 75, 46, 40, 58], 36) := by decide +kernel
theorem dX5_leaves_52 : decode cX5_leaves 52 = .ok (.iload_n 2, 1) := by decide +kernel
theorem dX5_leaves_53 : decode cX5_leaves 53 = .ok (.iconst 1, 1) := by decide +kernel
theorem dX5_leaves_54 : decode cX5_leaves 54 = .ok (.iadd, 1) := by decide +kernel
theorem dX5_leaves_55 : decode cX5_leaves 55 = .ok (.ireturn, 1) := by decide +kernel
theorem dX5_leaves_56 : decode cX5_leaves 56 = .ok (.iconst 2, 1) := by decide +kernel
theorem dX5_leaves_57 : decode cX5_leaves 57 = .ok (.iload_n 2, 1) := by decide +kernel
theorem dX5_leaves_58 : decode cX5_leaves 58 = .ok (.iconst 1, 1) := by decide +kernel
theorem dX5_leaves_59 : decode cX5_leaves 59 = .ok (.iadd, 1) := by decide +kernel
theorem dX5_leaves_60 : decode cX5_leaves 60 = .ok (.imul, 1) := by decide +kernel
theorem dX5_leaves_61 : decode cX5_leaves 61 = .ok (.ireturn, 1) := by decide +kernel
theorem dX5_leaves_62 : decode cX5_leaves 62 = .ok (.iload_n 2, 1) := by decide +kernel
theorem dX5_leaves_63 : decode cX5_leaves 63 = .ok (.ifCond .le 9, 3) := by decide +kernel
theorem dX5_leaves_66 : decode cX5_leaves 66 = .ok (.iload_n 2, 1) := by decide +kernel
theorem dX5_leaves_67 : decode cX5_leaves 67 = .ok (.iconst 1, 1) := by decide +kernel
theorem dX5_leaves_68 : decode cX5_leaves 68 = .ok (.isub, 1) := by decide +kernel
theorem dX5_leaves_69 : decode cX5_leaves 69 = .ok (.goto 4, 3) := by decide +kernel
theorem dX5_leaves_72 : decode cX5_leaves 72 = .ok (.iconst 0, 1) := by decide +kernel
theorem dX5_leaves_73 : decode cX5_leaves 73 = .ok (.ireturn, 1) := by decide +kernel
theorem dX5_leaves_74 : decode cX5_leaves 74 = .ok (.aload_n 0, 1) := by decide +kernel
theorem dX5_leaves_75 : decode cX5_leaves 75 = .ok (.iload_n 1, 1) := by decide +kernel
theorem dX5_leaves_76 : decode cX5_leaves 76 = .ok (.iconst 2, 1) := by decide +kernel
theorem dX5_leaves_77 : decode cX5_leaves 77 = .ok (.invokevirtual 65, 3) := by decide +kernel
theorem dX5_leaves_80 : decode cX5_leaves 80 = .ok (.ifCond .ne 9, 3) := by decide +kernel
theorem dX5_leaves_83 : decode cX5_leaves 83 = .ok (.iload_n 2, 1) := by decide +kernel
theorem dX5_leaves_84 : decode cX5_leaves 84 = .ok (.iconst 1, 1) := by decide +kernel
theorem dX5_leaves_85 : decode cX5_leaves 85 = .ok (.iadd, 1) := by decide +kernel
theorem dX5_leaves_86 : decode cX5_leaves 86 = .ok (.goto 4, 3) := by decide +kernel
theorem dX5_leaves_89 : decode cX5_leaves 89 = .ok (.iload_n 2, 1) := by decide +kernel
theorem dX5_leaves_90 : decode cX5_leaves 90 = .ok (.ireturn, 1) := by decide +kernel
theorem dX5_leaves_91 : decode cX5_leaves 91 = .ok (.iload_n 2, 1) := by decide +kernel
theorem dX5_leaves_92 : decode cX5_leaves 92 = .ok (.ireturn, 1) := by decide +kernel
theorem dX5_isKeeping_0 : decode cX5_isKeeping 0 = .ok (.aload_n 0, 1) := by decide +kernel
theorem dX5_isKeeping_1 : decode cX5_isKeeping 1 = .ok (.iload_n 1, 1) := by decide +kernel
theorem dX5_isKeeping_2 : decode cX5_isKeeping 2 = .ok (.iconst 0, 1) := by decide +kernel
theorem dX5_isKeeping_3 : decode cX5_isKeeping 3 = .ok (.invokevirtual 65, 3) := by decide +kernel
theorem dX5_isKeeping_6 : decode cX5_isKeeping 6 = .ok (.istore_n 2, 1) := by decide +kernel
theorem dX5_isKeeping_7 : decode cX5_isKeeping 7 = .ok (.iload_n 2, 1) := by decide +kernel
theorem dX5_isKeeping_8 : decode cX5_isKeeping 8 = .ok (.iconst 5, 1) := by decide +kernel
theorem dX5_isKeeping_9 : decode cX5_isKeeping 9 = .ok (.if_icmp .ne 24, 3) := by decide +kernel
theorem dX5_isKeeping_12 : decode cX5_isKeeping 12 = .ok (.aload_n 0, 1) := by decide +kernel
theorem dX5_isKeeping_13 : decode cX5_isKeeping 13 = .ok (.iload_n 1, 1) := by decide +kernel
theorem dX5_isKeeping_14 : decode cX5_isKeeping 14 = .ok (.iconst 1, 1) := by decide +kernel
theorem dX5_isKeeping_15 : decode cX5_isKeeping 15 = .ok (.invokevirtual 65, 3) := by decide +kernel
theorem dX5_isKeeping_18 : decode cX5_isKeeping 18 = .ok (.invokestatic 77, 3) := by decide +kernel
theorem dX5_isKeeping_21 : decode cX5_isKeeping 21 = .ok (.iconst 5, 1) := by decide +kernel
theorem dX5_isKeeping_22 : decode cX5_isKeeping 22 = .ok (.if_icmp .lt 7, 3) := by decide +kernel
theorem dX5_isKeeping_25 : decode cX5_isKeeping 25 = .ok (.iconst 1, 1) := by decide +kernel
theorem dX5_isKeeping_26 : decode cX5_isKeeping 26 = .ok (.goto 17, 3) := by decide +kernel
theorem dX5_isKeeping_29 : decode cX5_isKeeping 29 = .ok (.iconst 0, 1) := by decide +kernel
theorem dX5_isKeeping_30 : decode cX5_isKeeping 30 = .ok (.goto 13, 3) := by decide +kernel
theorem dX5_isKeeping_33 : decode cX5_isKeeping 33 = .ok (.iload_n 2, 1) := by decide +kernel
theorem dX5_isKeeping_34 : decode cX5_isKeeping 34 = .ok (.iconst 2, 1) := by decide +kernel
theorem dX5_isKeeping_35 : decode cX5_isKeeping 35 = .ok (.if_icmp .eq 7, 3) := by decide +kernel
theorem dX5_isKeeping_38 : decode cX5_isKeeping 38 = .ok (.iconst 1, 1) := by decide +kernel
theorem dX5_isKeeping_39 : decode cX5_isKeeping 39 = .ok (.goto 4, 3) := by decide +kernel
theorem dX5_isKeeping_42 : decode cX5_isKeeping 42 = .ok (.iconst 0, 1) := by decide +kernel
theorem dX5_isKeeping_43 : decode cX5_isKeeping 43 = .ok (.ireturn, 1) := by decide +kernel
theorem dX5_adds_0 : decode cX5_adds 0 = .ok (.aload_n 0, 1) := by decide +kernel
theorem dX5_adds_1 : decode cX5_adds 1 = .ok (.getfield 7, 3) := by decide +kernel
theorem dX5_adds_4 : decode cX5_adds 4 = .ok (.iconst 2, 1) := by decide +kernel
theorem dX5_adds_5 : decode cX5_adds 5 = .ok (.iaload, 1) := by decide +kernel
theorem dX5_adds_6 : decode cX5_adds 6 = .ok (.istore 4, 2) := by decide +kernel
theorem dX5_adds_8 : decode cX5_adds 8 = .ok (.aload_n 0, 1) := by decide +kernel
theorem dX5_adds_9 : decode cX5_adds 9 = .ok (.iload 4, 2) := by decide +kernel
theorem dX5_adds_11 : decode cX5_adds 11 = .ok (.iconst 0, 1) := by decide +kernel
theorem dX5_adds_12 : decode cX5_adds 12 = .ok (.iload_n 1, 1) := by decide +kernel
theorem dX5_adds_13 : decode cX5_adds 13 = .ok (.invokevirtual 93, 3) := by decide +kernel
theorem dX5_adds_16 : decode cX5_adds 16 = .ok (.aload_n 0, 1) := by decide +kernel
theorem dX5_adds_17 : decode cX5_adds 17 = .ok (.iload 4, 2) := by decide +kernel
theorem dX5_adds_19 : decode cX5_adds 19 = .ok (.iconst 1, 1) := by decide +kernel
theorem dX5_adds_20 : decode cX5_adds 20 = .ok (.iload_n 2, 1) := by decide +kernel
theorem dX5_adds_21 : decode cX5_adds 21 = .ok (.invokevirtual 93, 3) := by decide +kernel
theorem dX5_adds_24 : decode cX5_adds 24 = .ok (.aload_n 0, 1) := by decide +kernel
theorem dX5_adds_25 : decode cX5_adds 25 = .ok (.iload 4, 2) := by decide +kernel
theorem dX5_adds_27 : decode cX5_adds 27 = .ok (.iconst 2, 1) := by decide +kernel
theorem dX5_adds_28 : decode cX5_adds 28 = .ok (.iload_n 3, 1) := by decide +kernel
theorem dX5_adds_29 : decode cX5_adds 29 = .ok (.invokevirtual 93, 3) := by decide +kernel
theorem dX5_adds_32 : decode cX5_adds 32 = .ok (.aload_n 0, 1) := by decide +kernel
theorem dX5_adds_33 : decode cX5_adds 33 = .ok (.iload 4, 2) := by decide +kernel
theorem dX5_adds_35 : decode cX5_adds 35 = .ok (.iconst 3, 1) := by decide +kernel
theorem dX5_adds_36 : decode cX5_adds 36 = .ok (.iload 4, 2) := by decide +kernel
theorem dX5_adds_38 : decode cX5_adds 38 = .ok (.invokevirtual 93, 3) := by decide +kernel
theorem dX5_adds_41 : decode cX5_adds 41 = .ok (.aload_n 0, 1) := by decide +kernel
theorem dX5_adds_42 : decode cX5_adds 42 = .ok (.getfield 7, 3) := by decide +kernel
theorem dX5_adds_45 : decode cX5_adds 45 = .ok (.iconst 2, 1) := by decide +kernel
theorem dX5_adds_46 : decode cX5_adds 46 = .ok (.dup2, 1) := by decide +kernel
theorem dX5_adds_47 : decode cX5_adds 47 = .ok (.iaload, 1) := by decide +kernel
theorem dX5_adds_48 : decode cX5_adds 48 = .ok (.iconst 1, 1) := by decide +kernel
theorem dX5_adds_49 : decode cX5_adds 49 = .ok (.iadd, 1) := by decide +kernel
theorem dX5_adds_50 : decode cX5_adds 50 = .ok (.iastore, 1) := by decide +kernel
theorem dX5_adds_51 : decode cX5_adds 51 = .ok (.return_, 1) := by decide +kernel
theorem dX5_duster_0 : decode cX5_duster 0 = .ok (.iload_n 1, 1) := by decide +kernel
theorem dX5_duster_1 : decode cX5_duster 1 = .ok (.invokestatic 96, 3) := by decide +kernel
theorem dX5_duster_4 : decode cX5_duster 4 = .ok (.ifCond .ne 10, 3) := by decide +kernel
theorem dX5_duster_7 : decode cX5_duster 7 = .ok (.aload_n 0, 1) := by decide +kernel
theorem dX5_duster_8 : decode cX5_duster 8 = .ok (.ldc 48, 2) := by decide +kernel
theorem dX5_duster_10 : decode cX5_duster 10 = .ok (.invokevirtual 57, 3) := by decide +kernel
theorem dX5_duster_13 : decode cX5_duster 13 = .ok (.ireturn, 1) := by decide +kernel
theorem dX5_duster_14 : decode cX5_duster 14 = .ok (.aload_n 0, 1) := by decide +kernel
theorem dX5_duster_15 : decode cX5_duster 15 = .ok (.getfield 7, 3) := by decide +kernel
theorem dX5_duster_18 : decode cX5_duster 18 = .ok (.iconst 2, 1) := by decide +kernel
theorem dX5_duster_19 : decode cX5_duster 19 = .ok (.iaload, 1) := by decide +kernel
theorem dX5_duster_20 : decode cX5_duster 20 = .ok (.bipush 8, 2) := by decide +kernel
theorem dX5_duster_22 : decode cX5_duster 22 = .ok (.if_icmp .ne 10, 3) := by decide +kernel
theorem dX5_duster_25 : decode cX5_duster 25 = .ok (.aload_n 0, 1) := by decide +kernel
theorem dX5_duster_26 : decode cX5_duster 26 = .ok (.ldc 99, 2) := by decide +kernel
theorem dX5_duster_28 : decode cX5_duster 28 = .ok (.invokevirtual 57, 3) := by decide +kernel
theorem dX5_duster_31 : decode cX5_duster 31 = .ok (.ireturn, 1) := by decide +kernel
theorem dX5_duster_32 : decode cX5_duster 32 = .ok (.aload_n 0, 1) := by decide +kernel
theorem dX5_duster_33 : decode cX5_duster 33 = .ok (.iload_n 1, 1) := by decide +kernel
theorem dX5_duster_34 : decode cX5_duster 34 = .ok (.iconst 0, 1) := by decide +kernel
theorem dX5_duster_35 : decode cX5_duster 35 = .ok (.iconst 0, 1) := by decide +kernel
theorem dX5_duster_36 : decode cX5_duster 36 = .ok (.invokevirtual 100, 3) := by decide +kernel
theorem dX5_duster_39 : decode cX5_duster 39 = .ok (.aload_n 0, 1) := by decide +kernel
theorem dX5_duster_40 : decode cX5_duster 40 = .ok (.getfield 7, 3) := by decide +kernel
theorem dX5_duster_43 : decode cX5_duster 43 = .ok (.iconst 2, 1) := by decide +kernel
theorem dX5_duster_44 : decode cX5_duster 44 = .ok (.iaload, 1) := by decide +kernel
theorem dX5_duster_45 : decode cX5_duster 45 = .ok (.iconst 1, 1) := by decide +kernel
theorem dX5_duster_46 : decode cX5_duster 46 = .ok (.isub, 1) := by decide +kernel
theorem dX5_duster_47 : decode cX5_duster 47 = .ok (.ireturn, 1) := by decide +kernel
theorem dX5_of_0 : decode cX5_of 0 = .ok (.aload_n 0, 1) := by decide +kernel
theorem dX5_of_1 : decode cX5_of 1 = .ok (.iload_n 1, 1) := by decide +kernel
theorem dX5_of_2 : decode cX5_of 2 = .ok (.invokevirtual 103, 3) := by decide +kernel
theorem dX5_of_5 : decode cX5_of 5 = .ok (.ifCond .eq 13, 3) := by decide +kernel
theorem dX5_of_8 : decode cX5_of 8 = .ok (.iload_n 2, 1) := by decide +kernel
theorem dX5_of_9 : decode cX5_of 9 = .ok (.iconst 0, 1) := by decide +kernel
theorem dX5_of_10 : decode cX5_of 10 = .ok (.bipush 8, 2) := by decide +kernel
theorem dX5_of_12 : decode cX5_of 12 = .ok (.invokestatic 49, 3) := by decide +kernel
theorem dX5_of_15 : decode cX5_of 15 = .ok (.ifCond .ne 10, 3) := by decide +kernel
theorem dX5_of_18 : decode cX5_of 18 = .ok (.aload_n 0, 1) := by decide +kernel
theorem dX5_of_19 : decode cX5_of 19 = .ok (.ldc 48, 2) := by decide +kernel
theorem dX5_of_21 : decode cX5_of 21 = .ok (.invokevirtual 57, 3) := by decide +kernel
theorem dX5_of_24 : decode cX5_of 24 = .ok (.ireturn, 1) := by decide +kernel
theorem dX5_of_25 : decode cX5_of 25 = .ok (.iload_n 2, 1) := by decide +kernel
theorem dX5_of_26 : decode cX5_of 26 = .ok (.tableswitch 72 4 8 #[34, 40, 46, 52, 58], 34) := by decide +kernel
theorem dX5_of_60 : decode cX5_of 60 = .ok (.aload_n 0, 1) := by decide +kernel
theorem dX5_of_61 : decode cX5_of 61 = .ok (.iload_n 1, 1) := by decide +kernel
theorem dX5_of_62 : decode cX5_of 62 = .ok (.invokevirtual 68, 3) := by decide +kernel
theorem dX5_of_65 : decode cX5_of 65 = .ok (.ireturn, 1) := by decide +kernel
theorem dX5_of_66 : decode cX5_of 66 = .ok (.aload_n 0, 1) := by decide +kernel
theorem dX5_of_67 : decode cX5_of 67 = .ok (.iload_n 1, 1) := by decide +kernel
theorem dX5_of_68 : decode cX5_of 68 = .ok (.invokevirtual 106, 3) := by decide +kernel
theorem dX5_of_71 : decode cX5_of 71 = .ok (.ireturn, 1) := by decide +kernel
theorem dX5_of_72 : decode cX5_of 72 = .ok (.aload_n 0, 1) := by decide +kernel
theorem dX5_of_73 : decode cX5_of 73 = .ok (.iload_n 1, 1) := by decide +kernel
theorem dX5_of_74 : decode cX5_of 74 = .ok (.invokevirtual 109, 3) := by decide +kernel
theorem dX5_of_77 : decode cX5_of 77 = .ok (.ireturn, 1) := by decide +kernel
theorem dX5_of_78 : decode cX5_of 78 = .ok (.aload_n 0, 1) := by decide +kernel
theorem dX5_of_79 : decode cX5_of 79 = .ok (.iload_n 1, 1) := by decide +kernel
theorem dX5_of_80 : decode cX5_of 80 = .ok (.invokevirtual 112, 3) := by decide +kernel
theorem dX5_of_83 : decode cX5_of 83 = .ok (.ireturn, 1) := by decide +kernel
theorem dX5_of_84 : decode cX5_of 84 = .ok (.aload_n 0, 1) := by decide +kernel
theorem dX5_of_85 : decode cX5_of 85 = .ok (.iload_n 1, 1) := by decide +kernel
theorem dX5_of_86 : decode cX5_of 86 = .ok (.invokevirtual 115, 3) := by decide +kernel
theorem dX5_of_89 : decode cX5_of 89 = .ok (.ifCond .eq 7, 3) := by decide +kernel
theorem dX5_of_92 : decode cX5_of 92 = .ok (.iconst 1, 1) := by decide +kernel
theorem dX5_of_93 : decode cX5_of 93 = .ok (.goto 4, 3) := by decide +kernel
theorem dX5_of_96 : decode cX5_of 96 = .ok (.iconst 0, 1) := by decide +kernel
theorem dX5_of_97 : decode cX5_of 97 = .ok (.ireturn, 1) := by decide +kernel
theorem dX5_of_98 : decode cX5_of 98 = .ok (.aload_n 0, 1) := by decide +kernel
theorem dX5_of_99 : decode cX5_of 99 = .ok (.iload_n 1, 1) := by decide +kernel
theorem dX5_of_100 : decode cX5_of 100 = .ok (.iload_n 2, 1) := by decide +kernel
theorem dX5_of_101 : decode cX5_of 101 = .ok (.invokevirtual 65, 3) := by decide +kernel
theorem dX5_of_104 : decode cX5_of 104 = .ok (.ireturn, 1) := by decide +kernel
theorem dX5_isPart_0 : decode cX5_isPart 0 = .ok (.iload_n 0, 1) := by decide +kernel
theorem dX5_isPart_1 : decode cX5_isPart 1 = .ok (.lookupswitch 44 #[(1, 27), (2, 36)], 27) := by decide +kernel
theorem dX5_isPart_28 : decode cX5_isPart 28 = .ok (.iload_n 1, 1) := by decide +kernel
theorem dX5_isPart_29 : decode cX5_isPart 29 = .ok (.iconst 0, 1) := by decide +kernel
theorem dX5_isPart_30 : decode cX5_isPart 30 = .ok (.sipush 1023, 3) := by decide +kernel
theorem dX5_isPart_33 : decode cX5_isPart 33 = .ok (.invokestatic 49, 3) := by decide +kernel
theorem dX5_isPart_36 : decode cX5_isPart 36 = .ok (.ireturn, 1) := by decide +kernel
theorem dX5_isPart_37 : decode cX5_isPart 37 = .ok (.iload_n 1, 1) := by decide +kernel
theorem dX5_isPart_38 : decode cX5_isPart 38 = .ok (.iconst 0, 1) := by decide +kernel
theorem dX5_isPart_39 : decode cX5_isPart 39 = .ok (.bipush 99, 2) := by decide +kernel
theorem dX5_isPart_41 : decode cX5_isPart 41 = .ok (.invokestatic 49, 3) := by decide +kernel
theorem dX5_isPart_44 : decode cX5_isPart 44 = .ok (.ireturn, 1) := by decide +kernel
theorem dX5_isPart_45 : decode cX5_isPart 45 = .ok (.iload_n 0, 1) := by decide +kernel
theorem dX5_isPart_46 : decode cX5_isPart 46 = .ok (.iconst 3, 1) := by decide +kernel
theorem dX5_isPart_47 : decode cX5_isPart 47 = .ok (.if_icmp .ne 14, 3) := by decide +kernel
theorem dX5_isPart_50 : decode cX5_isPart 50 = .ok (.iload_n 1, 1) := by decide +kernel
theorem dX5_isPart_51 : decode cX5_isPart 51 = .ok (.invokestatic 61, 3) := by decide +kernel
theorem dX5_isPart_54 : decode cX5_isPart 54 = .ok (.ifCond .eq 7, 3) := by decide +kernel
theorem dX5_isPart_57 : decode cX5_isPart 57 = .ok (.iconst 1, 1) := by decide +kernel
theorem dX5_isPart_58 : decode cX5_isPart 58 = .ok (.goto 4, 3) := by decide +kernel
theorem dX5_isPart_61 : decode cX5_isPart 61 = .ok (.iconst 0, 1) := by decide +kernel
theorem dX5_isPart_62 : decode cX5_isPart 62 = .ok (.ireturn, 1) := by decide +kernel
theorem dX5_set_0 : decode cX5_set 0 = .ok (.aload_n 0, 1) := by decide +kernel
theorem dX5_set_1 : decode cX5_set 1 = .ok (.iload_n 1, 1) := by decide +kernel
theorem dX5_set_2 : decode cX5_set 2 = .ok (.invokevirtual 103, 3) := by decide +kernel
theorem dX5_set_5 : decode cX5_set 5 = .ok (.ifCond .eq 27, 3) := by decide +kernel
theorem dX5_set_8 : decode cX5_set 8 = .ok (.iload_n 2, 1) := by decide +kernel
theorem dX5_set_9 : decode cX5_set 9 = .ok (.iload_n 3, 1) := by decide +kernel
theorem dX5_set_10 : decode cX5_set 10 = .ok (.invokestatic 118, 3) := by decide +kernel
theorem dX5_set_13 : decode cX5_set 13 = .ok (.ifCond .eq 19, 3) := by decide +kernel
theorem dX5_set_16 : decode cX5_set 16 = .ok (.aload_n 0, 1) := by decide +kernel
theorem dX5_set_17 : decode cX5_set 17 = .ok (.bipush 19, 2) := by decide +kernel
theorem dX5_set_19 : decode cX5_set 19 = .ok (.iconst 4, 1) := by decide +kernel
theorem dX5_set_20 : decode cX5_set 20 = .ok (.iload_n 1, 1) := by decide +kernel
theorem dX5_set_21 : decode cX5_set 21 = .ok (.imul, 1) := by decide +kernel
theorem dX5_set_22 : decode cX5_set 22 = .ok (.iadd, 1) := by decide +kernel
theorem dX5_set_23 : decode cX5_set 23 = .ok (.iload_n 2, 1) := by decide +kernel
theorem dX5_set_24 : decode cX5_set 24 = .ok (.iadd, 1) := by decide +kernel
theorem dX5_set_25 : decode cX5_set 25 = .ok (.iload_n 3, 1) := by decide +kernel
theorem dX5_set_26 : decode cX5_set 26 = .ok (.invokevirtual 53, 3) := by decide +kernel
theorem dX5_set_29 : decode cX5_set 29 = .ok (.goto 9, 3) := by decide +kernel
theorem dX5_set_32 : decode cX5_set 32 = .ok (.aload_n 0, 1) := by decide +kernel
theorem dX5_set_33 : decode cX5_set 33 = .ok (.ldc 48, 2) := by decide +kernel
theorem dX5_set_35 : decode cX5_set 35 = .ok (.invokevirtual 57, 3) := by decide +kernel
theorem dX5_set_38 : decode cX5_set 38 = .ok (.ireturn, 1) := by decide +kernel
theorem dX5_turn_0 : decode cX5_turn 0 = .ok (.aload_n 0, 1) := by decide +kernel
theorem dX5_turn_1 : decode cX5_turn 1 = .ok (.iload_n 1, 1) := by decide +kernel
theorem dX5_turn_2 : decode cX5_turn 2 = .ok (.invokevirtual 103, 3) := by decide +kernel
theorem dX5_turn_5 : decode cX5_turn 5 = .ok (.ifCond .eq 24, 3) := by decide +kernel
theorem dX5_turn_8 : decode cX5_turn 8 = .ok (.iload_n 2, 1) := by decide +kernel
theorem dX5_turn_9 : decode cX5_turn 9 = .ok (.invokestatic 96, 3) := by decide +kernel
theorem dX5_turn_12 : decode cX5_turn 12 = .ok (.ifCond .eq 17, 3) := by decide +kernel
theorem dX5_turn_15 : decode cX5_turn 15 = .ok (.aload_n 0, 1) := by decide +kernel
theorem dX5_turn_16 : decode cX5_turn 16 = .ok (.bipush 19, 2) := by decide +kernel
theorem dX5_turn_18 : decode cX5_turn 18 = .ok (.iconst 4, 1) := by decide +kernel
theorem dX5_turn_19 : decode cX5_turn 19 = .ok (.iload_n 1, 1) := by decide +kernel
theorem dX5_turn_20 : decode cX5_turn 20 = .ok (.imul, 1) := by decide +kernel
theorem dX5_turn_21 : decode cX5_turn 21 = .ok (.iadd, 1) := by decide +kernel
theorem dX5_turn_22 : decode cX5_turn 22 = .ok (.iload_n 2, 1) := by decide +kernel
theorem dX5_turn_23 : decode cX5_turn 23 = .ok (.invokevirtual 53, 3) := by decide +kernel
theorem dX5_turn_26 : decode cX5_turn 26 = .ok (.goto 9, 3) := by decide +kernel
theorem dX5_turn_29 : decode cX5_turn 29 = .ok (.aload_n 0, 1) := by decide +kernel
theorem dX5_turn_30 : decode cX5_turn 30 = .ok (.ldc 48, 2) := by decide +kernel
theorem dX5_turn_32 : decode cX5_turn 32 = .ok (.invokevirtual 57, 3) := by decide +kernel
theorem dX5_turn_35 : decode cX5_turn 35 = .ok (.ireturn, 1) := by decide +kernel
theorem dX5_as_0 : decode cX5_as 0 = .ok (.aload_n 0, 1) := by decide +kernel
theorem dX5_as_1 : decode cX5_as 1 = .ok (.iload_n 1, 1) := by decide +kernel
theorem dX5_as_2 : decode cX5_as 2 = .ok (.invokevirtual 103, 3) := by decide +kernel
theorem dX5_as_5 : decode cX5_as 5 = .ok (.ifCond .eq 10, 3) := by decide +kernel
theorem dX5_as_8 : decode cX5_as 8 = .ok (.iload_n 2, 1) := by decide +kernel
theorem dX5_as_9 : decode cX5_as 9 = .ok (.invokestatic 96, 3) := by decide +kernel
theorem dX5_as_12 : decode cX5_as 12 = .ok (.ifCond .ne 10, 3) := by decide +kernel
theorem dX5_as_15 : decode cX5_as 15 = .ok (.aload_n 0, 1) := by decide +kernel
theorem dX5_as_16 : decode cX5_as 16 = .ok (.ldc 48, 2) := by decide +kernel
theorem dX5_as_18 : decode cX5_as 18 = .ok (.invokevirtual 57, 3) := by decide +kernel
theorem dX5_as_21 : decode cX5_as 21 = .ok (.ireturn, 1) := by decide +kernel
theorem dX5_as_22 : decode cX5_as 22 = .ok (.aload_n 0, 1) := by decide +kernel
theorem dX5_as_23 : decode cX5_as 23 = .ok (.iload_n 1, 1) := by decide +kernel
theorem dX5_as_24 : decode cX5_as 24 = .ok (.iconst 0, 1) := by decide +kernel
theorem dX5_as_25 : decode cX5_as 25 = .ok (.invokevirtual 65, 3) := by decide +kernel
theorem dX5_as_28 : decode cX5_as 28 = .ok (.istore_n 3, 1) := by decide +kernel
theorem dX5_as_29 : decode cX5_as 29 = .ok (.iload_n 2, 1) := by decide +kernel
theorem dX5_as_30 : decode cX5_as 30 = .ok (.ifCond .eq 28, 3) := by decide +kernel
theorem dX5_as_33 : decode cX5_as 33 = .ok (.iload_n 2, 1) := by decide +kernel
theorem dX5_as_34 : decode cX5_as 34 = .ok (.iload_n 3, 1) := by decide +kernel
theorem dX5_as_35 : decode cX5_as 35 = .ok (.if_icmp .eq 23, 3) := by decide +kernel
theorem dX5_as_38 : decode cX5_as 38 = .ok (.iload_n 2, 1) := by decide +kernel
theorem dX5_as_39 : decode cX5_as 39 = .ok (.iconst 1, 1) := by decide +kernel
theorem dX5_as_40 : decode cX5_as 40 = .ok (.if_icmp .ne 8, 3) := by decide +kernel
theorem dX5_as_43 : decode cX5_as 43 = .ok (.iload_n 3, 1) := by decide +kernel
theorem dX5_as_44 : decode cX5_as 44 = .ok (.iconst 4, 1) := by decide +kernel
theorem dX5_as_45 : decode cX5_as 45 = .ok (.if_icmp .eq 13, 3) := by decide +kernel
theorem dX5_as_48 : decode cX5_as 48 = .ok (.iload_n 2, 1) := by decide +kernel
theorem dX5_as_49 : decode cX5_as 49 = .ok (.iconst 2, 1) := by decide +kernel
theorem dX5_as_50 : decode cX5_as 50 = .ok (.if_icmp .ne 12, 3) := by decide +kernel
theorem dX5_as_53 : decode cX5_as 53 = .ok (.iload_n 3, 1) := by decide +kernel
theorem dX5_as_54 : decode cX5_as 54 = .ok (.iconst 5, 1) := by decide +kernel
theorem dX5_as_55 : decode cX5_as 55 = .ok (.if_icmp .ne 7, 3) := by decide +kernel
theorem dX5_as_58 : decode cX5_as 58 = .ok (.iconst 1, 1) := by decide +kernel
theorem dX5_as_59 : decode cX5_as 59 = .ok (.goto 4, 3) := by decide +kernel
theorem dX5_as_62 : decode cX5_as 62 = .ok (.iconst 0, 1) := by decide +kernel
theorem dX5_as_63 : decode cX5_as 63 = .ok (.istore 4, 2) := by decide +kernel
theorem dX5_as_65 : decode cX5_as 65 = .ok (.iload 4, 2) := by decide +kernel
theorem dX5_as_67 : decode cX5_as 67 = .ok (.ifCond .eq 12, 3) := by decide +kernel
theorem dX5_as_70 : decode cX5_as 70 = .ok (.aload_n 0, 1) := by decide +kernel
theorem dX5_as_71 : decode cX5_as 71 = .ok (.iload_n 1, 1) := by decide +kernel
theorem dX5_as_72 : decode cX5_as 72 = .ok (.iconst 2, 1) := by decide +kernel
theorem dX5_as_73 : decode cX5_as 73 = .ok (.invokevirtual 65, 3) := by decide +kernel
theorem dX5_as_76 : decode cX5_as 76 = .ok (.goto 9, 3) := by decide +kernel
theorem dX5_as_79 : decode cX5_as 79 = .ok (.aload_n 0, 1) := by decide +kernel
theorem dX5_as_80 : decode cX5_as 80 = .ok (.ldc 122, 2) := by decide +kernel
theorem dX5_as_82 : decode cX5_as 82 = .ok (.invokevirtual 57, 3) := by decide +kernel
theorem dX5_as_85 : decode cX5_as 85 = .ok (.ireturn, 1) := by decide +kernel
theorem dX5_least_0 : decode cX5_least 0 = .ok (.iload_n 0, 1) := by decide +kernel
theorem dX5_least_1 : decode cX5_least 1 = .ok (.istore_n 2, 1) := by decide +kernel
theorem dX5_least_2 : decode cX5_least 2 = .ok (.iconst 0, 1) := by decide +kernel
theorem dX5_least_3 : decode cX5_least 3 = .ok (.istore_n 3, 1) := by decide +kernel
theorem dX5_least_4 : decode cX5_least 4 = .ok (.iload_n 3, 1) := by decide +kernel
theorem dX5_least_5 : decode cX5_least 5 = .ok (.iload_n 1, 1) := by decide +kernel
theorem dX5_least_6 : decode cX5_least 6 = .ok (.if_icmp .ge 15, 3) := by decide +kernel
theorem dX5_least_9 : decode cX5_least 9 = .ok (.iload_n 2, 1) := by decide +kernel
theorem dX5_least_10 : decode cX5_least 10 = .ok (.iload_n 2, 1) := by decide +kernel
theorem dX5_least_11 : decode cX5_least 11 = .ok (.iconst 1, 1) := by decide +kernel
theorem dX5_least_12 : decode cX5_least 12 = .ok (.isub, 1) := by decide +kernel
theorem dX5_least_13 : decode cX5_least 13 = .ok (.iand, 1) := by decide +kernel
theorem dX5_least_14 : decode cX5_least 14 = .ok (.istore_n 2, 1) := by decide +kernel
theorem dX5_least_15 : decode cX5_least 15 = .ok (.iinc 3 1, 3) := by decide +kernel
theorem dX5_least_18 : decode cX5_least 18 = .ok (.goto (-14), 3) := by decide +kernel
theorem dX5_least_21 : decode cX5_least 21 = .ok (.iload_n 0, 1) := by decide +kernel
theorem dX5_least_22 : decode cX5_least 22 = .ok (.iload_n 2, 1) := by decide +kernel
theorem dX5_least_23 : decode cX5_least 23 = .ok (.iconst (-1), 1) := by decide +kernel
theorem dX5_least_24 : decode cX5_least 24 = .ok (.ixor, 1) := by decide +kernel
theorem dX5_least_25 : decode cX5_least 25 = .ok (.iand, 1) := by decide +kernel
theorem dX5_least_26 : decode cX5_least 26 = .ok (.ireturn, 1) := by decide +kernel
theorem dX5_goes_0 : decode cX5_goes 0 = .ok (.aload_n 0, 1) := by decide +kernel
theorem dX5_goes_1 : decode cX5_goes 1 = .ok (.iload_n 1, 1) := by decide +kernel
theorem dX5_goes_2 : decode cX5_goes 2 = .ok (.iconst 1, 1) := by decide +kernel
theorem dX5_goes_3 : decode cX5_goes 3 = .ok (.invokevirtual 65, 3) := by decide +kernel
theorem dX5_goes_6 : decode cX5_goes 6 = .ok (.istore_n 3, 1) := by decide +kernel
theorem dX5_goes_7 : decode cX5_goes 7 = .ok (.aload_n 0, 1) := by decide +kernel
theorem dX5_goes_8 : decode cX5_goes 8 = .ok (.iload_n 2, 1) := by decide +kernel
theorem dX5_goes_9 : decode cX5_goes 9 = .ok (.iconst 1, 1) := by decide +kernel
theorem dX5_goes_10 : decode cX5_goes 10 = .ok (.invokevirtual 71, 3) := by decide +kernel
theorem dX5_goes_13 : decode cX5_goes 13 = .ok (.istore 4, 2) := by decide +kernel
theorem dX5_goes_15 : decode cX5_goes 15 = .ok (.iload 4, 2) := by decide +kernel
theorem dX5_goes_17 : decode cX5_goes 17 = .ok (.iload_n 3, 1) := by decide +kernel
theorem dX5_goes_18 : decode cX5_goes 18 = .ok (.iconst (-1), 1) := by decide +kernel
theorem dX5_goes_19 : decode cX5_goes 19 = .ok (.ixor, 1) := by decide +kernel
theorem dX5_goes_20 : decode cX5_goes 20 = .ok (.iand, 1) := by decide +kernel
theorem dX5_goes_21 : decode cX5_goes 21 = .ok (.aload_n 0, 1) := by decide +kernel
theorem dX5_goes_22 : decode cX5_goes 22 = .ok (.iload_n 1, 1) := by decide +kernel
theorem dX5_goes_23 : decode cX5_goes 23 = .ok (.invokevirtual 109, 3) := by decide +kernel
theorem dX5_goes_26 : decode cX5_goes 26 = .ok (.invokestatic 123, 3) := by decide +kernel
theorem dX5_goes_29 : decode cX5_goes 29 = .ok (.istore 5, 2) := by decide +kernel
theorem dX5_goes_31 : decode cX5_goes 31 = .ok (.iload_n 3, 1) := by decide +kernel
theorem dX5_goes_32 : decode cX5_goes 32 = .ok (.iload 4, 2) := by decide +kernel
theorem dX5_goes_34 : decode cX5_goes 34 = .ok (.iconst (-1), 1) := by decide +kernel
theorem dX5_goes_35 : decode cX5_goes 35 = .ok (.ixor, 1) := by decide +kernel
theorem dX5_goes_36 : decode cX5_goes 36 = .ok (.iand, 1) := by decide +kernel
theorem dX5_goes_37 : decode cX5_goes 37 = .ok (.aload_n 0, 1) := by decide +kernel
theorem dX5_goes_38 : decode cX5_goes 38 = .ok (.iload_n 1, 1) := by decide +kernel
theorem dX5_goes_39 : decode cX5_goes 39 = .ok (.invokevirtual 112, 3) := by decide +kernel
theorem dX5_goes_42 : decode cX5_goes 42 = .ok (.invokestatic 123, 3) := by decide +kernel
theorem dX5_goes_45 : decode cX5_goes 45 = .ok (.istore 6, 2) := by decide +kernel
theorem dX5_goes_47 : decode cX5_goes 47 = .ok (.aload_n 0, 1) := by decide +kernel
theorem dX5_goes_48 : decode cX5_goes 48 = .ok (.iload_n 1, 1) := by decide +kernel
theorem dX5_goes_49 : decode cX5_goes 49 = .ok (.invokevirtual 106, 3) := by decide +kernel
theorem dX5_goes_52 : decode cX5_goes 52 = .ok (.aload_n 0, 1) := by decide +kernel
theorem dX5_goes_53 : decode cX5_goes 53 = .ok (.iload_n 2, 1) := by decide +kernel
theorem dX5_goes_54 : decode cX5_goes 54 = .ok (.iconst 0, 1) := by decide +kernel
theorem dX5_goes_55 : decode cX5_goes 55 = .ok (.invokevirtual 71, 3) := by decide +kernel
theorem dX5_goes_58 : decode cX5_goes 58 = .ok (.if_icmp .ge 11, 3) := by decide +kernel
theorem dX5_goes_61 : decode cX5_goes 61 = .ok (.aload_n 0, 1) := by decide +kernel
theorem dX5_goes_62 : decode cX5_goes 62 = .ok (.iload_n 1, 1) := by decide +kernel
theorem dX5_goes_63 : decode cX5_goes 63 = .ok (.invokevirtual 106, 3) := by decide +kernel
theorem dX5_goes_66 : decode cX5_goes 66 = .ok (.goto 9, 3) := by decide +kernel
theorem dX5_goes_69 : decode cX5_goes 69 = .ok (.aload_n 0, 1) := by decide +kernel
theorem dX5_goes_70 : decode cX5_goes 70 = .ok (.iload_n 2, 1) := by decide +kernel
theorem dX5_goes_71 : decode cX5_goes 71 = .ok (.iconst 0, 1) := by decide +kernel
theorem dX5_goes_72 : decode cX5_goes 72 = .ok (.invokevirtual 71, 3) := by decide +kernel
theorem dX5_goes_75 : decode cX5_goes 75 = .ok (.istore 7, 2) := by decide +kernel
theorem dX5_goes_77 : decode cX5_goes 77 = .ok (.aload_n 0, 1) := by decide +kernel
theorem dX5_goes_78 : decode cX5_goes 78 = .ok (.iload_n 1, 1) := by decide +kernel
theorem dX5_goes_79 : decode cX5_goes 79 = .ok (.invokevirtual 115, 3) := by decide +kernel
theorem dX5_goes_82 : decode cX5_goes 82 = .ok (.istore 8, 2) := by decide +kernel
theorem dX5_goes_84 : decode cX5_goes 84 = .ok (.aload_n 0, 1) := by decide +kernel
theorem dX5_goes_85 : decode cX5_goes 85 = .ok (.iload_n 1, 1) := by decide +kernel
theorem dX5_goes_86 : decode cX5_goes 86 = .ok (.iconst 1, 1) := by decide +kernel
theorem dX5_goes_87 : decode cX5_goes 87 = .ok (.iload 8, 2) := by decide +kernel
theorem dX5_goes_89 : decode cX5_goes 89 = .ok (.ifCond .eq 7, 3) := by decide +kernel
theorem dX5_goes_92 : decode cX5_goes 92 = .ok (.iload_n 3, 1) := by decide +kernel
theorem dX5_goes_93 : decode cX5_goes 93 = .ok (.goto 9, 3) := by decide +kernel
theorem dX5_goes_96 : decode cX5_goes 96 = .ok (.iload_n 3, 1) := by decide +kernel
theorem dX5_goes_97 : decode cX5_goes 97 = .ok (.iload 6, 2) := by decide +kernel
theorem dX5_goes_99 : decode cX5_goes 99 = .ok (.iconst (-1), 1) := by decide +kernel
theorem dX5_goes_100 : decode cX5_goes 100 = .ok (.ixor, 1) := by decide +kernel
theorem dX5_goes_101 : decode cX5_goes 101 = .ok (.iand, 1) := by decide +kernel
theorem dX5_goes_102 : decode cX5_goes 102 = .ok (.iload 5, 2) := by decide +kernel
theorem dX5_goes_104 : decode cX5_goes 104 = .ok (.ior, 1) := by decide +kernel
theorem dX5_goes_105 : decode cX5_goes 105 = .ok (.invokevirtual 93, 3) := by decide +kernel
theorem dX5_goes_108 : decode cX5_goes 108 = .ok (.aload_n 0, 1) := by decide +kernel
theorem dX5_goes_109 : decode cX5_goes 109 = .ok (.iload_n 2, 1) := by decide +kernel
theorem dX5_goes_110 : decode cX5_goes 110 = .ok (.iconst 1, 1) := by decide +kernel
theorem dX5_goes_111 : decode cX5_goes 111 = .ok (.iload 4, 2) := by decide +kernel
theorem dX5_goes_113 : decode cX5_goes 113 = .ok (.iload 5, 2) := by decide +kernel
theorem dX5_goes_115 : decode cX5_goes 115 = .ok (.iconst (-1), 1) := by decide +kernel
theorem dX5_goes_116 : decode cX5_goes 116 = .ok (.ixor, 1) := by decide +kernel
theorem dX5_goes_117 : decode cX5_goes 117 = .ok (.iand, 1) := by decide +kernel
theorem dX5_goes_118 : decode cX5_goes 118 = .ok (.iload 6, 2) := by decide +kernel
theorem dX5_goes_120 : decode cX5_goes 120 = .ok (.ior, 1) := by decide +kernel
theorem dX5_goes_121 : decode cX5_goes 121 = .ok (.invokevirtual 44, 3) := by decide +kernel
theorem dX5_goes_124 : decode cX5_goes 124 = .ok (.aload_n 0, 1) := by decide +kernel
theorem dX5_goes_125 : decode cX5_goes 125 = .ok (.iload_n 2, 1) := by decide +kernel
theorem dX5_goes_126 : decode cX5_goes 126 = .ok (.iconst 0, 1) := by decide +kernel
theorem dX5_goes_127 : decode cX5_goes 127 = .ok (.aload_n 0, 1) := by decide +kernel
theorem dX5_goes_128 : decode cX5_goes 128 = .ok (.iload_n 2, 1) := by decide +kernel
theorem dX5_goes_129 : decode cX5_goes 129 = .ok (.iconst 0, 1) := by decide +kernel
theorem dX5_goes_130 : decode cX5_goes 130 = .ok (.invokevirtual 71, 3) := by decide +kernel
theorem dX5_goes_133 : decode cX5_goes 133 = .ok (.iload 7, 2) := by decide +kernel
theorem dX5_goes_135 : decode cX5_goes 135 = .ok (.isub, 1) := by decide +kernel
theorem dX5_goes_136 : decode cX5_goes 136 = .ok (.invokevirtual 44, 3) := by decide +kernel
theorem dX5_goes_139 : decode cX5_goes 139 = .ok (.aload_n 0, 1) := by decide +kernel
theorem dX5_goes_140 : decode cX5_goes 140 = .ok (.iload_n 1, 1) := by decide +kernel
theorem dX5_goes_141 : decode cX5_goes 141 = .ok (.iconst 2, 1) := by decide +kernel
theorem dX5_goes_142 : decode cX5_goes 142 = .ok (.aload_n 0, 1) := by decide +kernel
theorem dX5_goes_143 : decode cX5_goes 143 = .ok (.iload_n 1, 1) := by decide +kernel
theorem dX5_goes_144 : decode cX5_goes 144 = .ok (.iconst 2, 1) := by decide +kernel
theorem dX5_goes_145 : decode cX5_goes 145 = .ok (.invokevirtual 65, 3) := by decide +kernel
theorem dX5_goes_148 : decode cX5_goes 148 = .ok (.iload 7, 2) := by decide +kernel
theorem dX5_goes_150 : decode cX5_goes 150 = .ok (.iconst 2, 1) := by decide +kernel
theorem dX5_goes_151 : decode cX5_goes 151 = .ok (.idiv, 1) := by decide +kernel
theorem dX5_goes_152 : decode cX5_goes 152 = .ok (.iadd, 1) := by decide +kernel
theorem dX5_goes_153 : decode cX5_goes 153 = .ok (.iconst 0, 1) := by decide +kernel
theorem dX5_goes_154 : decode cX5_goes 154 = .ok (.bipush 99, 2) := by decide +kernel
theorem dX5_goes_156 : decode cX5_goes 156 = .ok (.invokestatic 126, 3) := by decide +kernel
theorem dX5_goes_159 : decode cX5_goes 159 = .ok (.invokevirtual 93, 3) := by decide +kernel
theorem dX5_goes_162 : decode cX5_goes 162 = .ok (.iload 7, 2) := by decide +kernel
theorem dX5_goes_164 : decode cX5_goes 164 = .ok (.ireturn, 1) := by decide +kernel
theorem dX5_through_0 : decode cX5_through 0 = .ok (.aload_n 0, 1) := by decide +kernel
theorem dX5_through_1 : decode cX5_through 1 = .ok (.iload_n 1, 1) := by decide +kernel
theorem dX5_through_2 : decode cX5_through 2 = .ok (.invokevirtual 103, 3) := by decide +kernel
theorem dX5_through_5 : decode cX5_through 5 = .ok (.ifCond .eq 19, 3) := by decide +kernel
theorem dX5_through_8 : decode cX5_through 8 = .ok (.iload_n 2, 1) := by decide +kernel
theorem dX5_through_9 : decode cX5_through 9 = .ok (.invokestatic 61, 3) := by decide +kernel
theorem dX5_through_12 : decode cX5_through 12 = .ok (.ifCond .eq 12, 3) := by decide +kernel
theorem dX5_through_15 : decode cX5_through 15 = .ok (.aload_n 0, 1) := by decide +kernel
theorem dX5_through_16 : decode cX5_through 16 = .ok (.iload_n 1, 1) := by decide +kernel
theorem dX5_through_17 : decode cX5_through 17 = .ok (.iload_n 2, 1) := by decide +kernel
theorem dX5_through_18 : decode cX5_through 18 = .ok (.invokevirtual 130, 3) := by decide +kernel
theorem dX5_through_21 : decode cX5_through 21 = .ok (.goto 9, 3) := by decide +kernel
theorem dX5_through_24 : decode cX5_through 24 = .ok (.aload_n 0, 1) := by decide +kernel
theorem dX5_through_25 : decode cX5_through 25 = .ok (.ldc 48, 2) := by decide +kernel
theorem dX5_through_27 : decode cX5_through 27 = .ok (.invokevirtual 57, 3) := by decide +kernel
theorem dX5_through_30 : decode cX5_through 30 = .ok (.ireturn, 1) := by decide +kernel
theorem dX5_washes_0 : decode cX5_washes 0 = .ok (.aload_n 0, 1) := by decide +kernel
theorem dX5_washes_1 : decode cX5_washes 1 = .ok (.iload_n 1, 1) := by decide +kernel
theorem dX5_washes_2 : decode cX5_washes 2 = .ok (.iconst 1, 1) := by decide +kernel
theorem dX5_washes_3 : decode cX5_washes 3 = .ok (.invokevirtual 65, 3) := by decide +kernel
theorem dX5_washes_6 : decode cX5_washes 6 = .ok (.istore_n 2, 1) := by decide +kernel
theorem dX5_washes_7 : decode cX5_washes 7 = .ok (.iconst 0, 1) := by decide +kernel
theorem dX5_washes_8 : decode cX5_washes 8 = .ok (.istore_n 3, 1) := by decide +kernel
theorem dX5_washes_9 : decode cX5_washes 9 = .ok (.iload_n 3, 1) := by decide +kernel
theorem dX5_washes_10 : decode cX5_washes 10 = .ok (.bipush 8, 2) := by decide +kernel
theorem dX5_washes_12 : decode cX5_washes 12 = .ok (.if_icmp .ge 23, 3) := by decide +kernel
theorem dX5_washes_15 : decode cX5_washes 15 = .ok (.aload_n 0, 1) := by decide +kernel
theorem dX5_washes_16 : decode cX5_washes 16 = .ok (.iload_n 3, 1) := by decide +kernel
theorem dX5_washes_17 : decode cX5_washes 17 = .ok (.iconst 1, 1) := by decide +kernel
theorem dX5_washes_18 : decode cX5_washes 18 = .ok (.aload_n 0, 1) := by decide +kernel
theorem dX5_washes_19 : decode cX5_washes 19 = .ok (.iload_n 3, 1) := by decide +kernel
theorem dX5_washes_20 : decode cX5_washes 20 = .ok (.iconst 1, 1) := by decide +kernel
theorem dX5_washes_21 : decode cX5_washes 21 = .ok (.invokevirtual 71, 3) := by decide +kernel
theorem dX5_washes_24 : decode cX5_washes 24 = .ok (.iload_n 2, 1) := by decide +kernel
theorem dX5_washes_25 : decode cX5_washes 25 = .ok (.ior, 1) := by decide +kernel
theorem dX5_washes_26 : decode cX5_washes 26 = .ok (.invokevirtual 44, 3) := by decide +kernel
theorem dX5_washes_29 : decode cX5_washes 29 = .ok (.iinc 3 1, 3) := by decide +kernel
theorem dX5_washes_32 : decode cX5_washes 32 = .ok (.goto (-23), 3) := by decide +kernel
theorem dX5_washes_35 : decode cX5_washes 35 = .ok (.aload_n 0, 1) := by decide +kernel
theorem dX5_washes_36 : decode cX5_washes 36 = .ok (.iload_n 1, 1) := by decide +kernel
theorem dX5_washes_37 : decode cX5_washes 37 = .ok (.iconst 1, 1) := by decide +kernel
theorem dX5_washes_38 : decode cX5_washes 38 = .ok (.iconst 0, 1) := by decide +kernel
theorem dX5_washes_39 : decode cX5_washes 39 = .ok (.invokevirtual 93, 3) := by decide +kernel
theorem dX5_washes_42 : decode cX5_washes 42 = .ok (.aload_n 0, 1) := by decide +kernel
theorem dX5_washes_43 : decode cX5_washes 43 = .ok (.iload_n 1, 1) := by decide +kernel
theorem dX5_washes_44 : decode cX5_washes 44 = .ok (.iconst 2, 1) := by decide +kernel
theorem dX5_washes_45 : decode cX5_washes 45 = .ok (.iconst 0, 1) := by decide +kernel
theorem dX5_washes_46 : decode cX5_washes 46 = .ok (.invokevirtual 93, 3) := by decide +kernel
theorem dX5_washes_49 : decode cX5_washes 49 = .ok (.iload_n 2, 1) := by decide +kernel
theorem dX5_washes_50 : decode cX5_washes 50 = .ok (.ireturn, 1) := by decide +kernel
theorem dX5_wash_0 : decode cX5_wash 0 = .ok (.aload_n 0, 1) := by decide +kernel
theorem dX5_wash_1 : decode cX5_wash 1 = .ok (.iload_n 1, 1) := by decide +kernel
theorem dX5_wash_2 : decode cX5_wash 2 = .ok (.invokevirtual 103, 3) := by decide +kernel
theorem dX5_wash_5 : decode cX5_wash 5 = .ok (.ifCond .eq 11, 3) := by decide +kernel
theorem dX5_wash_8 : decode cX5_wash 8 = .ok (.aload_n 0, 1) := by decide +kernel
theorem dX5_wash_9 : decode cX5_wash 9 = .ok (.iload_n 1, 1) := by decide +kernel
theorem dX5_wash_10 : decode cX5_wash 10 = .ok (.invokevirtual 133, 3) := by decide +kernel
theorem dX5_wash_13 : decode cX5_wash 13 = .ok (.goto 9, 3) := by decide +kernel
theorem dX5_wash_16 : decode cX5_wash 16 = .ok (.aload_n 0, 1) := by decide +kernel
theorem dX5_wash_17 : decode cX5_wash 17 = .ok (.ldc 48, 2) := by decide +kernel
theorem dX5_wash_19 : decode cX5_wash 19 = .ok (.invokevirtual 57, 3) := by decide +kernel
theorem dX5_wash_22 : decode cX5_wash 22 = .ok (.ireturn, 1) := by decide +kernel
theorem dX5_shakes_0 : decode cX5_shakes 0 = .ok (.aload_n 0, 1) := by decide +kernel
theorem dX5_shakes_1 : decode cX5_shakes 1 = .ok (.iload_n 1, 1) := by decide +kernel
theorem dX5_shakes_2 : decode cX5_shakes 2 = .ok (.iconst 1, 1) := by decide +kernel
theorem dX5_shakes_3 : decode cX5_shakes 3 = .ok (.invokevirtual 65, 3) := by decide +kernel
theorem dX5_shakes_6 : decode cX5_shakes 6 = .ok (.istore_n 2, 1) := by decide +kernel
theorem dX5_shakes_7 : decode cX5_shakes 7 = .ok (.aload_n 0, 1) := by decide +kernel
theorem dX5_shakes_8 : decode cX5_shakes 8 = .ok (.iload_n 1, 1) := by decide +kernel
theorem dX5_shakes_9 : decode cX5_shakes 9 = .ok (.invokevirtual 68, 3) := by decide +kernel
theorem dX5_shakes_12 : decode cX5_shakes 12 = .ok (.iconst 1, 1) := by decide +kernel
theorem dX5_shakes_13 : decode cX5_shakes 13 = .ok (.iadd, 1) := by decide +kernel
theorem dX5_shakes_14 : decode cX5_shakes 14 = .ok (.bipush 8, 2) := by decide +kernel
theorem dX5_shakes_16 : decode cX5_shakes 16 = .ok (.irem, 1) := by decide +kernel
theorem dX5_shakes_17 : decode cX5_shakes 17 = .ok (.istore_n 3, 1) := by decide +kernel
theorem dX5_shakes_18 : decode cX5_shakes 18 = .ok (.aload_n 0, 1) := by decide +kernel
theorem dX5_shakes_19 : decode cX5_shakes 19 = .ok (.iload_n 3, 1) := by decide +kernel
theorem dX5_shakes_20 : decode cX5_shakes 20 = .ok (.iconst 1, 1) := by decide +kernel
theorem dX5_shakes_21 : decode cX5_shakes 21 = .ok (.aload_n 0, 1) := by decide +kernel
theorem dX5_shakes_22 : decode cX5_shakes 22 = .ok (.iload_n 3, 1) := by decide +kernel
theorem dX5_shakes_23 : decode cX5_shakes 23 = .ok (.iconst 1, 1) := by decide +kernel
theorem dX5_shakes_24 : decode cX5_shakes 24 = .ok (.invokevirtual 71, 3) := by decide +kernel
theorem dX5_shakes_27 : decode cX5_shakes 27 = .ok (.iload_n 2, 1) := by decide +kernel
theorem dX5_shakes_28 : decode cX5_shakes 28 = .ok (.ior, 1) := by decide +kernel
theorem dX5_shakes_29 : decode cX5_shakes 29 = .ok (.invokevirtual 44, 3) := by decide +kernel
theorem dX5_shakes_32 : decode cX5_shakes 32 = .ok (.aload_n 0, 1) := by decide +kernel
theorem dX5_shakes_33 : decode cX5_shakes 33 = .ok (.iload_n 1, 1) := by decide +kernel
theorem dX5_shakes_34 : decode cX5_shakes 34 = .ok (.iconst 1, 1) := by decide +kernel
theorem dX5_shakes_35 : decode cX5_shakes 35 = .ok (.iconst 0, 1) := by decide +kernel
theorem dX5_shakes_36 : decode cX5_shakes 36 = .ok (.invokevirtual 93, 3) := by decide +kernel
theorem dX5_shakes_39 : decode cX5_shakes 39 = .ok (.aload_n 0, 1) := by decide +kernel
theorem dX5_shakes_40 : decode cX5_shakes 40 = .ok (.iload_n 1, 1) := by decide +kernel
theorem dX5_shakes_41 : decode cX5_shakes 41 = .ok (.iconst 2, 1) := by decide +kernel
theorem dX5_shakes_42 : decode cX5_shakes 42 = .ok (.aload_n 0, 1) := by decide +kernel
theorem dX5_shakes_43 : decode cX5_shakes 43 = .ok (.iload_n 1, 1) := by decide +kernel
theorem dX5_shakes_44 : decode cX5_shakes 44 = .ok (.iconst 2, 1) := by decide +kernel
theorem dX5_shakes_45 : decode cX5_shakes 45 = .ok (.invokevirtual 65, 3) := by decide +kernel
theorem dX5_shakes_48 : decode cX5_shakes 48 = .ok (.iconst 2, 1) := by decide +kernel
theorem dX5_shakes_49 : decode cX5_shakes 49 = .ok (.idiv, 1) := by decide +kernel
theorem dX5_shakes_50 : decode cX5_shakes 50 = .ok (.invokevirtual 93, 3) := by decide +kernel
theorem dX5_shakes_53 : decode cX5_shakes 53 = .ok (.iload_n 2, 1) := by decide +kernel
theorem dX5_shakes_54 : decode cX5_shakes 54 = .ok (.ireturn, 1) := by decide +kernel
theorem dX5_shake_0 : decode cX5_shake 0 = .ok (.aload_n 0, 1) := by decide +kernel
theorem dX5_shake_1 : decode cX5_shake 1 = .ok (.iload_n 1, 1) := by decide +kernel
theorem dX5_shake_2 : decode cX5_shake 2 = .ok (.invokevirtual 103, 3) := by decide +kernel
theorem dX5_shake_5 : decode cX5_shake 5 = .ok (.ifCond .eq 11, 3) := by decide +kernel
theorem dX5_shake_8 : decode cX5_shake 8 = .ok (.aload_n 0, 1) := by decide +kernel
theorem dX5_shake_9 : decode cX5_shake 9 = .ok (.iload_n 1, 1) := by decide +kernel
theorem dX5_shake_10 : decode cX5_shake 10 = .ok (.invokevirtual 136, 3) := by decide +kernel
theorem dX5_shake_13 : decode cX5_shake 13 = .ok (.goto 9, 3) := by decide +kernel
theorem dX5_shake_16 : decode cX5_shake 16 = .ok (.aload_n 0, 1) := by decide +kernel
theorem dX5_shake_17 : decode cX5_shake 17 = .ok (.ldc 48, 2) := by decide +kernel
theorem dX5_shake_19 : decode cX5_shake 19 = .ok (.invokevirtual 57, 3) := by decide +kernel
theorem dX5_shake_22 : decode cX5_shake 22 = .ok (.ireturn, 1) := by decide +kernel
theorem dX5_oneDay_0 : decode cX5_oneDay 0 = .ok (.iconst 0, 1) := by decide +kernel
theorem dX5_oneDay_1 : decode cX5_oneDay 1 = .ok (.istore_n 1, 1) := by decide +kernel
theorem dX5_oneDay_2 : decode cX5_oneDay 2 = .ok (.iload_n 1, 1) := by decide +kernel
theorem dX5_oneDay_3 : decode cX5_oneDay 3 = .ok (.aload_n 0, 1) := by decide +kernel
theorem dX5_oneDay_4 : decode cX5_oneDay 4 = .ok (.getfield 7, 3) := by decide +kernel
theorem dX5_oneDay_7 : decode cX5_oneDay 7 = .ok (.iconst 2, 1) := by decide +kernel
theorem dX5_oneDay_8 : decode cX5_oneDay 8 = .ok (.iaload, 1) := by decide +kernel
theorem dX5_oneDay_9 : decode cX5_oneDay 9 = .ok (.if_icmp .ge 20, 3) := by decide +kernel
theorem dX5_oneDay_12 : decode cX5_oneDay 12 = .ok (.aload_n 0, 1) := by decide +kernel
theorem dX5_oneDay_13 : decode cX5_oneDay 13 = .ok (.iload_n 1, 1) := by decide +kernel
theorem dX5_oneDay_14 : decode cX5_oneDay 14 = .ok (.aload_n 0, 1) := by decide +kernel
theorem dX5_oneDay_15 : decode cX5_oneDay 15 = .ok (.iload_n 1, 1) := by decide +kernel
theorem dX5_oneDay_16 : decode cX5_oneDay 16 = .ok (.invokevirtual 68, 3) := by decide +kernel
theorem dX5_oneDay_19 : decode cX5_oneDay 19 = .ok (.invokevirtual 130, 3) := by decide +kernel
theorem dX5_oneDay_22 : decode cX5_oneDay 22 = .ok (.pop, 1) := by decide +kernel
theorem dX5_oneDay_23 : decode cX5_oneDay 23 = .ok (.iinc 1 1, 3) := by decide +kernel
theorem dX5_oneDay_26 : decode cX5_oneDay 26 = .ok (.goto (-24), 3) := by decide +kernel
theorem dX5_oneDay_29 : decode cX5_oneDay 29 = .ok (.iconst 0, 1) := by decide +kernel
theorem dX5_oneDay_30 : decode cX5_oneDay 30 = .ok (.istore_n 1, 1) := by decide +kernel
theorem dX5_oneDay_31 : decode cX5_oneDay 31 = .ok (.iload_n 1, 1) := by decide +kernel
theorem dX5_oneDay_32 : decode cX5_oneDay 32 = .ok (.bipush 8, 2) := by decide +kernel
theorem dX5_oneDay_34 : decode cX5_oneDay 34 = .ok (.if_icmp .ge 34, 3) := by decide +kernel
theorem dX5_oneDay_37 : decode cX5_oneDay 37 = .ok (.aload_n 0, 1) := by decide +kernel
theorem dX5_oneDay_38 : decode cX5_oneDay 38 = .ok (.iload_n 1, 1) := by decide +kernel
theorem dX5_oneDay_39 : decode cX5_oneDay 39 = .ok (.iconst 0, 1) := by decide +kernel
theorem dX5_oneDay_40 : decode cX5_oneDay 40 = .ok (.aload_n 0, 1) := by decide +kernel
theorem dX5_oneDay_41 : decode cX5_oneDay 41 = .ok (.iload_n 1, 1) := by decide +kernel
theorem dX5_oneDay_42 : decode cX5_oneDay 42 = .ok (.iconst 0, 1) := by decide +kernel
theorem dX5_oneDay_43 : decode cX5_oneDay 43 = .ok (.invokevirtual 71, 3) := by decide +kernel
theorem dX5_oneDay_46 : decode cX5_oneDay 46 = .ok (.aload_n 0, 1) := by decide +kernel
theorem dX5_oneDay_47 : decode cX5_oneDay 47 = .ok (.getfield 7, 3) := by decide +kernel
theorem dX5_oneDay_50 : decode cX5_oneDay 50 = .ok (.iconst 1, 1) := by decide +kernel
theorem dX5_oneDay_51 : decode cX5_oneDay 51 = .ok (.iaload, 1) := by decide +kernel
theorem dX5_oneDay_52 : decode cX5_oneDay 52 = .ok (.iadd, 1) := by decide +kernel
theorem dX5_oneDay_53 : decode cX5_oneDay 53 = .ok (.iconst 0, 1) := by decide +kernel
theorem dX5_oneDay_54 : decode cX5_oneDay 54 = .ok (.bipush 99, 2) := by decide +kernel
theorem dX5_oneDay_56 : decode cX5_oneDay 56 = .ok (.invokestatic 126, 3) := by decide +kernel
theorem dX5_oneDay_59 : decode cX5_oneDay 59 = .ok (.invokevirtual 44, 3) := by decide +kernel
theorem dX5_oneDay_62 : decode cX5_oneDay 62 = .ok (.iinc 1 1, 3) := by decide +kernel
theorem dX5_oneDay_65 : decode cX5_oneDay 65 = .ok (.goto (-34), 3) := by decide +kernel
theorem dX5_oneDay_68 : decode cX5_oneDay 68 = .ok (.aload_n 0, 1) := by decide +kernel
theorem dX5_oneDay_69 : decode cX5_oneDay 69 = .ok (.getfield 7, 3) := by decide +kernel
theorem dX5_oneDay_72 : decode cX5_oneDay 72 = .ok (.iconst 0, 1) := by decide +kernel
theorem dX5_oneDay_73 : decode cX5_oneDay 73 = .ok (.dup2, 1) := by decide +kernel
theorem dX5_oneDay_74 : decode cX5_oneDay 74 = .ok (.iaload, 1) := by decide +kernel
theorem dX5_oneDay_75 : decode cX5_oneDay 75 = .ok (.iconst 1, 1) := by decide +kernel
theorem dX5_oneDay_76 : decode cX5_oneDay 76 = .ok (.iadd, 1) := by decide +kernel
theorem dX5_oneDay_77 : decode cX5_oneDay 77 = .ok (.iastore, 1) := by decide +kernel
theorem dX5_oneDay_78 : decode cX5_oneDay 78 = .ok (.return_, 1) := by decide +kernel
theorem dX5_passes_0 : decode cX5_passes 0 = .ok (.iconst 0, 1) := by decide +kernel
theorem dX5_passes_1 : decode cX5_passes 1 = .ok (.istore_n 2, 1) := by decide +kernel
theorem dX5_passes_2 : decode cX5_passes 2 = .ok (.iload_n 2, 1) := by decide +kernel
theorem dX5_passes_3 : decode cX5_passes 3 = .ok (.iload_n 1, 1) := by decide +kernel
theorem dX5_passes_4 : decode cX5_passes 4 = .ok (.if_icmp .ge 13, 3) := by decide +kernel
theorem dX5_passes_7 : decode cX5_passes 7 = .ok (.aload_n 0, 1) := by decide +kernel
theorem dX5_passes_8 : decode cX5_passes 8 = .ok (.invokevirtual 139, 3) := by decide +kernel
theorem dX5_passes_11 : decode cX5_passes 11 = .ok (.iinc 2 1, 3) := by decide +kernel
theorem dX5_passes_14 : decode cX5_passes 14 = .ok (.goto (-12), 3) := by decide +kernel
theorem dX5_passes_17 : decode cX5_passes 17 = .ok (.return_, 1) := by decide +kernel
theorem dX5_days_0 : decode cX5_days 0 = .ok (.iload_n 1, 1) := by decide +kernel
theorem dX5_days_1 : decode cX5_days 1 = .ok (.iconst 1, 1) := by decide +kernel
theorem dX5_days_2 : decode cX5_days 2 = .ok (.bipush 60, 2) := by decide +kernel
theorem dX5_days_4 : decode cX5_days 4 = .ok (.invokestatic 49, 3) := by decide +kernel
theorem dX5_days_7 : decode cX5_days 7 = .ok (.ifCond .ne 10, 3) := by decide +kernel
theorem dX5_days_10 : decode cX5_days 10 = .ok (.aload_n 0, 1) := by decide +kernel
theorem dX5_days_11 : decode cX5_days 11 = .ok (.ldc 48, 2) := by decide +kernel
theorem dX5_days_13 : decode cX5_days 13 = .ok (.invokevirtual 57, 3) := by decide +kernel
theorem dX5_days_16 : decode cX5_days 16 = .ok (.ireturn, 1) := by decide +kernel
theorem dX5_days_17 : decode cX5_days 17 = .ok (.aload_n 0, 1) := by decide +kernel
theorem dX5_days_18 : decode cX5_days 18 = .ok (.getfield 7, 3) := by decide +kernel
theorem dX5_days_21 : decode cX5_days 21 = .ok (.iconst 0, 1) := by decide +kernel
theorem dX5_days_22 : decode cX5_days 22 = .ok (.iaload, 1) := by decide +kernel
theorem dX5_days_23 : decode cX5_days 23 = .ok (.iload_n 1, 1) := by decide +kernel
theorem dX5_days_24 : decode cX5_days 24 = .ok (.iadd, 1) := by decide +kernel
theorem dX5_days_25 : decode cX5_days 25 = .ok (.sipush 9999, 3) := by decide +kernel
theorem dX5_days_28 : decode cX5_days 28 = .ok (.if_icmp .le 10, 3) := by decide +kernel
theorem dX5_days_31 : decode cX5_days 31 = .ok (.aload_n 0, 1) := by decide +kernel
theorem dX5_days_32 : decode cX5_days 32 = .ok (.ldc 142, 2) := by decide +kernel
theorem dX5_days_34 : decode cX5_days 34 = .ok (.invokevirtual 57, 3) := by decide +kernel
theorem dX5_days_37 : decode cX5_days 37 = .ok (.ireturn, 1) := by decide +kernel
theorem dX5_days_38 : decode cX5_days 38 = .ok (.aload_n 0, 1) := by decide +kernel
theorem dX5_days_39 : decode cX5_days 39 = .ok (.iload_n 1, 1) := by decide +kernel
theorem dX5_days_40 : decode cX5_days 40 = .ok (.invokevirtual 143, 3) := by decide +kernel
theorem dX5_days_43 : decode cX5_days 43 = .ok (.aload_n 0, 1) := by decide +kernel
theorem dX5_days_44 : decode cX5_days 44 = .ok (.invokevirtual 80, 3) := by decide +kernel
theorem dX5_days_47 : decode cX5_days 47 = .ok (.ireturn, 1) := by decide +kernel
theorem dX5_behind_0 : decode cX5_behind 0 = .ok (.aload_n 0, 1) := by decide +kernel
theorem dX5_behind_1 : decode cX5_behind 1 = .ok (.iconst 1, 1) := by decide +kernel
theorem dX5_behind_2 : decode cX5_behind 2 = .ok (.aload_n 0, 1) := by decide +kernel
theorem dX5_behind_3 : decode cX5_behind 3 = .ok (.getfield 16, 3) := by decide +kernel
theorem dX5_behind_6 : decode cX5_behind 6 = .ok (.invokevirtual 147, 3) := by decide +kernel
theorem dX5_behind_9 : decode cX5_behind 9 = .ok (.aload_n 0, 1) := by decide +kernel
theorem dX5_behind_10 : decode cX5_behind 10 = .ok (.iload_n 1, 1) := by decide +kernel
theorem dX5_behind_11 : decode cX5_behind 11 = .ok (.invokevirtual 143, 3) := by decide +kernel
theorem dX5_behind_14 : decode cX5_behind 14 = .ok (.aload_n 0, 1) := by decide +kernel
theorem dX5_behind_15 : decode cX5_behind 15 = .ok (.getfield 7, 3) := by decide +kernel
theorem dX5_behind_18 : decode cX5_behind 18 = .ok (.iload_n 2, 1) := by decide +kernel
theorem dX5_behind_19 : decode cX5_behind 19 = .ok (.iaload, 1) := by decide +kernel
theorem dX5_behind_20 : decode cX5_behind 20 = .ok (.istore_n 3, 1) := by decide +kernel
theorem dX5_behind_21 : decode cX5_behind 21 = .ok (.aload_n 0, 1) := by decide +kernel
theorem dX5_behind_22 : decode cX5_behind 22 = .ok (.iconst 0, 1) := by decide +kernel
theorem dX5_behind_23 : decode cX5_behind 23 = .ok (.aload_n 0, 1) := by decide +kernel
theorem dX5_behind_24 : decode cX5_behind 24 = .ok (.getfield 16, 3) := by decide +kernel
theorem dX5_behind_27 : decode cX5_behind 27 = .ok (.invokevirtual 147, 3) := by decide +kernel
theorem dX5_behind_30 : decode cX5_behind 30 = .ok (.iload_n 3, 1) := by decide +kernel
theorem dX5_behind_31 : decode cX5_behind 31 = .ok (.ireturn, 1) := by decide +kernel
theorem dX5_on_0 : decode cX5_on 0 = .ok (.iload_n 1, 1) := by decide +kernel
theorem dX5_on_1 : decode cX5_on 1 = .ok (.invokestatic 61, 3) := by decide +kernel
theorem dX5_on_4 : decode cX5_on 4 = .ok (.ifCond .eq 37, 3) := by decide +kernel
theorem dX5_on_7 : decode cX5_on 7 = .ok (.iload_n 2, 1) := by decide +kernel
theorem dX5_on_8 : decode cX5_on 8 = .ok (.iconst 0, 1) := by decide +kernel
theorem dX5_on_9 : decode cX5_on 9 = .ok (.bipush 100, 2) := by decide +kernel
theorem dX5_on_11 : decode cX5_on 11 = .ok (.invokestatic 49, 3) := by decide +kernel
theorem dX5_on_14 : decode cX5_on 14 = .ok (.ifCond .eq 27, 3) := by decide +kernel
theorem dX5_on_17 : decode cX5_on 17 = .ok (.iload_n 3, 1) := by decide +kernel
theorem dX5_on_18 : decode cX5_on 18 = .ok (.iconst 0, 1) := by decide +kernel
theorem dX5_on_19 : decode cX5_on 19 = .ok (.iconst 1, 1) := by decide +kernel
theorem dX5_on_20 : decode cX5_on 20 = .ok (.invokestatic 49, 3) := by decide +kernel
theorem dX5_on_23 : decode cX5_on 23 = .ok (.ifCond .eq 18, 3) := by decide +kernel
theorem dX5_on_26 : decode cX5_on 26 = .ok (.aload_n 0, 1) := by decide +kernel
theorem dX5_on_27 : decode cX5_on 27 = .ok (.iload_n 2, 1) := by decide +kernel
theorem dX5_on_28 : decode cX5_on 28 = .ok (.iconst 3, 1) := by decide +kernel
theorem dX5_on_29 : decode cX5_on 29 = .ok (.iconst 2, 1) := by decide +kernel
theorem dX5_on_30 : decode cX5_on 30 = .ok (.iload_n 1, 1) := by decide +kernel
theorem dX5_on_31 : decode cX5_on 31 = .ok (.imul, 1) := by decide +kernel
theorem dX5_on_32 : decode cX5_on 32 = .ok (.iadd, 1) := by decide +kernel
theorem dX5_on_33 : decode cX5_on 33 = .ok (.iload_n 3, 1) := by decide +kernel
theorem dX5_on_34 : decode cX5_on 34 = .ok (.iadd, 1) := by decide +kernel
theorem dX5_on_35 : decode cX5_on 35 = .ok (.invokevirtual 151, 3) := by decide +kernel
theorem dX5_on_38 : decode cX5_on 38 = .ok (.goto 9, 3) := by decide +kernel
theorem dX5_on_41 : decode cX5_on 41 = .ok (.aload_n 0, 1) := by decide +kernel
theorem dX5_on_42 : decode cX5_on 42 = .ok (.ldc 48, 2) := by decide +kernel
theorem dX5_on_44 : decode cX5_on 44 = .ok (.invokevirtual 57, 3) := by decide +kernel
theorem dX5_on_47 : decode cX5_on 47 = .ok (.ireturn, 1) := by decide +kernel
theorem dX5_then_0 : decode cX5_then 0 = .ok (.aload_n 0, 1) := by decide +kernel
theorem dX5_then_1 : decode cX5_then 1 = .ok (.iload_n 1, 1) := by decide +kernel
theorem dX5_then_2 : decode cX5_then 2 = .ok (.invokevirtual 103, 3) := by decide +kernel
theorem dX5_then_5 : decode cX5_then 5 = .ok (.ifCond .eq 40, 3) := by decide +kernel
theorem dX5_then_8 : decode cX5_then 8 = .ok (.iload_n 2, 1) := by decide +kernel
theorem dX5_then_9 : decode cX5_then 9 = .ok (.iconst 0, 1) := by decide +kernel
theorem dX5_then_10 : decode cX5_then 10 = .ok (.bipush 100, 2) := by decide +kernel
theorem dX5_then_12 : decode cX5_then 12 = .ok (.invokestatic 49, 3) := by decide +kernel
theorem dX5_then_15 : decode cX5_then 15 = .ok (.ifCond .eq 30, 3) := by decide +kernel
theorem dX5_then_18 : decode cX5_then 18 = .ok (.iload_n 3, 1) := by decide +kernel
theorem dX5_then_19 : decode cX5_then 19 = .ok (.iconst 0, 1) := by decide +kernel
theorem dX5_then_20 : decode cX5_then 20 = .ok (.iconst 1, 1) := by decide +kernel
theorem dX5_then_21 : decode cX5_then 21 = .ok (.invokestatic 49, 3) := by decide +kernel
theorem dX5_then_24 : decode cX5_then 24 = .ok (.ifCond .eq 21, 3) := by decide +kernel
theorem dX5_then_27 : decode cX5_then 27 = .ok (.aload_n 0, 1) := by decide +kernel
theorem dX5_then_28 : decode cX5_then 28 = .ok (.iload_n 2, 1) := by decide +kernel
theorem dX5_then_29 : decode cX5_then 29 = .ok (.bipush 19, 2) := by decide +kernel
theorem dX5_then_31 : decode cX5_then 31 = .ok (.iconst 4, 1) := by decide +kernel
theorem dX5_then_32 : decode cX5_then 32 = .ok (.iload_n 1, 1) := by decide +kernel
theorem dX5_then_33 : decode cX5_then 33 = .ok (.imul, 1) := by decide +kernel
theorem dX5_then_34 : decode cX5_then 34 = .ok (.iadd, 1) := by decide +kernel
theorem dX5_then_35 : decode cX5_then 35 = .ok (.iconst 1, 1) := by decide +kernel
theorem dX5_then_36 : decode cX5_then 36 = .ok (.iadd, 1) := by decide +kernel
theorem dX5_then_37 : decode cX5_then 37 = .ok (.iload_n 3, 1) := by decide +kernel
theorem dX5_then_38 : decode cX5_then 38 = .ok (.iadd, 1) := by decide +kernel
theorem dX5_then_39 : decode cX5_then 39 = .ok (.invokevirtual 151, 3) := by decide +kernel
theorem dX5_then_42 : decode cX5_then 42 = .ok (.goto 9, 3) := by decide +kernel
theorem dX5_then_45 : decode cX5_then 45 = .ok (.aload_n 0, 1) := by decide +kernel
theorem dX5_then_46 : decode cX5_then 46 = .ok (.ldc 48, 2) := by decide +kernel
theorem dX5_then_48 : decode cX5_then 48 = .ok (.invokevirtual 57, 3) := by decide +kernel
theorem dX5_then_51 : decode cX5_then 51 = .ok (.ireturn, 1) := by decide +kernel
theorem dX5_clean_0 : decode cX5_clean 0 = .ok (.iload_n 1, 1) := by decide +kernel
theorem dX5_clean_1 : decode cX5_clean 1 = .ok (.invokestatic 61, 3) := by decide +kernel
theorem dX5_clean_4 : decode cX5_clean 4 = .ok (.ifCond .ne 10, 3) := by decide +kernel
theorem dX5_clean_7 : decode cX5_clean 7 = .ok (.aload_n 0, 1) := by decide +kernel
theorem dX5_clean_8 : decode cX5_clean 8 = .ok (.ldc 48, 2) := by decide +kernel
theorem dX5_clean_10 : decode cX5_clean 10 = .ok (.invokevirtual 57, 3) := by decide +kernel
theorem dX5_clean_13 : decode cX5_clean 13 = .ok (.ireturn, 1) := by decide +kernel
theorem dX5_clean_14 : decode cX5_clean 14 = .ok (.aload_n 0, 1) := by decide +kernel
theorem dX5_clean_15 : decode cX5_clean 15 = .ok (.iconst 1, 1) := by decide +kernel
theorem dX5_clean_16 : decode cX5_clean 16 = .ok (.aload_n 0, 1) := by decide +kernel
theorem dX5_clean_17 : decode cX5_clean 17 = .ok (.getfield 16, 3) := by decide +kernel
theorem dX5_clean_20 : decode cX5_clean 20 = .ok (.invokevirtual 147, 3) := by decide +kernel
theorem dX5_clean_23 : decode cX5_clean 23 = .ok (.iconst 0, 1) := by decide +kernel
theorem dX5_clean_24 : decode cX5_clean 24 = .ok (.istore_n 2, 1) := by decide +kernel
theorem dX5_clean_25 : decode cX5_clean 25 = .ok (.iload_n 2, 1) := by decide +kernel
theorem dX5_clean_26 : decode cX5_clean 26 = .ok (.bipush 100, 2) := by decide +kernel
theorem dX5_clean_28 : decode cX5_clean 28 = .ok (.if_icmp .gt 22, 3) := by decide +kernel
theorem dX5_clean_31 : decode cX5_clean 31 = .ok (.aload_n 0, 1) := by decide +kernel
theorem dX5_clean_32 : decode cX5_clean 32 = .ok (.iload_n 1, 1) := by decide +kernel
theorem dX5_clean_33 : decode cX5_clean 33 = .ok (.iconst 0, 1) := by decide +kernel
theorem dX5_clean_34 : decode cX5_clean 34 = .ok (.invokevirtual 71, 3) := by decide +kernel
theorem dX5_clean_37 : decode cX5_clean 37 = .ok (.ifCond .le 13, 3) := by decide +kernel
theorem dX5_clean_40 : decode cX5_clean 40 = .ok (.aload_n 0, 1) := by decide +kernel
theorem dX5_clean_41 : decode cX5_clean 41 = .ok (.invokevirtual 139, 3) := by decide +kernel
theorem dX5_clean_44 : decode cX5_clean 44 = .ok (.iinc 2 1, 3) := by decide +kernel
theorem dX5_clean_47 : decode cX5_clean 47 = .ok (.goto (-22), 3) := by decide +kernel
theorem dX5_clean_50 : decode cX5_clean 50 = .ok (.aload_n 0, 1) := by decide +kernel
theorem dX5_clean_51 : decode cX5_clean 51 = .ok (.iconst 0, 1) := by decide +kernel
theorem dX5_clean_52 : decode cX5_clean 52 = .ok (.aload_n 0, 1) := by decide +kernel
theorem dX5_clean_53 : decode cX5_clean 53 = .ok (.getfield 16, 3) := by decide +kernel
theorem dX5_clean_56 : decode cX5_clean 56 = .ok (.invokevirtual 147, 3) := by decide +kernel
theorem dX5_clean_59 : decode cX5_clean 59 = .ok (.iload_n 2, 1) := by decide +kernel
theorem dX5_clean_60 : decode cX5_clean 60 = .ok (.bipush 100, 2) := by decide +kernel
theorem dX5_clean_62 : decode cX5_clean 62 = .ok (.if_icmp .le 12, 3) := by decide +kernel
theorem dX5_clean_65 : decode cX5_clean 65 = .ok (.aload_n 0, 1) := by decide +kernel
theorem dX5_clean_66 : decode cX5_clean 66 = .ok (.ldc 154, 2) := by decide +kernel
theorem dX5_clean_68 : decode cX5_clean 68 = .ok (.invokevirtual 57, 3) := by decide +kernel
theorem dX5_clean_71 : decode cX5_clean 71 = .ok (.goto 4, 3) := by decide +kernel
theorem dX5_clean_74 : decode cX5_clean 74 = .ok (.iload_n 2, 1) := by decide +kernel
theorem dX5_clean_75 : decode cX5_clean 75 = .ok (.ireturn, 1) := by decide +kernel
theorem dX5_whenHas_0 : decode cX5_whenHas 0 = .ok (.aload_n 0, 1) := by decide +kernel
theorem dX5_whenHas_1 : decode cX5_whenHas 1 = .ok (.iconst 1, 1) := by decide +kernel
theorem dX5_whenHas_2 : decode cX5_whenHas 2 = .ok (.aload_n 0, 1) := by decide +kernel
theorem dX5_whenHas_3 : decode cX5_whenHas 3 = .ok (.getfield 16, 3) := by decide +kernel
theorem dX5_whenHas_6 : decode cX5_whenHas 6 = .ok (.invokevirtual 147, 3) := by decide +kernel
theorem dX5_whenHas_9 : decode cX5_whenHas 9 = .ok (.iconst 0, 1) := by decide +kernel
theorem dX5_whenHas_10 : decode cX5_whenHas 10 = .ok (.istore_n 3, 1) := by decide +kernel
theorem dX5_whenHas_11 : decode cX5_whenHas 11 = .ok (.iload_n 3, 1) := by decide +kernel
theorem dX5_whenHas_12 : decode cX5_whenHas 12 = .ok (.bipush 100, 2) := by decide +kernel
theorem dX5_whenHas_14 : decode cX5_whenHas 14 = .ok (.if_icmp .gt 26, 3) := by decide +kernel
theorem dX5_whenHas_17 : decode cX5_whenHas 17 = .ok (.aload_n 0, 1) := by decide +kernel
theorem dX5_whenHas_18 : decode cX5_whenHas 18 = .ok (.getfield 7, 3) := by decide +kernel
theorem dX5_whenHas_21 : decode cX5_whenHas 21 = .ok (.iload_n 1, 1) := by decide +kernel
theorem dX5_whenHas_22 : decode cX5_whenHas 22 = .ok (.iaload, 1) := by decide +kernel
theorem dX5_whenHas_23 : decode cX5_whenHas 23 = .ok (.iload_n 2, 1) := by decide +kernel
theorem dX5_whenHas_24 : decode cX5_whenHas 24 = .ok (.ishr, 1) := by decide +kernel
theorem dX5_whenHas_25 : decode cX5_whenHas 25 = .ok (.iconst 1, 1) := by decide +kernel
theorem dX5_whenHas_26 : decode cX5_whenHas 26 = .ok (.iand, 1) := by decide +kernel
theorem dX5_whenHas_27 : decode cX5_whenHas 27 = .ok (.ifCond .ne 13, 3) := by decide +kernel
theorem dX5_whenHas_30 : decode cX5_whenHas 30 = .ok (.aload_n 0, 1) := by decide +kernel
theorem dX5_whenHas_31 : decode cX5_whenHas 31 = .ok (.invokevirtual 139, 3) := by decide +kernel
theorem dX5_whenHas_34 : decode cX5_whenHas 34 = .ok (.iinc 3 1, 3) := by decide +kernel
theorem dX5_whenHas_37 : decode cX5_whenHas 37 = .ok (.goto (-26), 3) := by decide +kernel
theorem dX5_whenHas_40 : decode cX5_whenHas 40 = .ok (.aload_n 0, 1) := by decide +kernel
theorem dX5_whenHas_41 : decode cX5_whenHas 41 = .ok (.iconst 0, 1) := by decide +kernel
theorem dX5_whenHas_42 : decode cX5_whenHas 42 = .ok (.aload_n 0, 1) := by decide +kernel
theorem dX5_whenHas_43 : decode cX5_whenHas 43 = .ok (.getfield 16, 3) := by decide +kernel
theorem dX5_whenHas_46 : decode cX5_whenHas 46 = .ok (.invokevirtual 147, 3) := by decide +kernel
theorem dX5_whenHas_49 : decode cX5_whenHas 49 = .ok (.iload_n 3, 1) := by decide +kernel
theorem dX5_whenHas_50 : decode cX5_whenHas 50 = .ok (.bipush 100, 2) := by decide +kernel
theorem dX5_whenHas_52 : decode cX5_whenHas 52 = .ok (.if_icmp .le 12, 3) := by decide +kernel
theorem dX5_whenHas_55 : decode cX5_whenHas 55 = .ok (.aload_n 0, 1) := by decide +kernel
theorem dX5_whenHas_56 : decode cX5_whenHas 56 = .ok (.ldc 154, 2) := by decide +kernel
theorem dX5_whenHas_58 : decode cX5_whenHas 58 = .ok (.invokevirtual 57, 3) := by decide +kernel
theorem dX5_whenHas_61 : decode cX5_whenHas 61 = .ok (.goto 4, 3) := by decide +kernel
theorem dX5_whenHas_64 : decode cX5_whenHas 64 = .ok (.iload_n 3, 1) := by decide +kernel
theorem dX5_whenHas_65 : decode cX5_whenHas 65 = .ok (.ireturn, 1) := by decide +kernel
theorem dX5_comes_0 : decode cX5_comes 0 = .ok (.iload_n 1, 1) := by decide +kernel
theorem dX5_comes_1 : decode cX5_comes 1 = .ok (.invokestatic 61, 3) := by decide +kernel
theorem dX5_comes_4 : decode cX5_comes 4 = .ok (.ifCond .eq 25, 3) := by decide +kernel
theorem dX5_comes_7 : decode cX5_comes 7 = .ok (.iload_n 2, 1) := by decide +kernel
theorem dX5_comes_8 : decode cX5_comes 8 = .ok (.invokestatic 155, 3) := by decide +kernel
theorem dX5_comes_11 : decode cX5_comes 11 = .ok (.ifCond .eq 18, 3) := by decide +kernel
theorem dX5_comes_14 : decode cX5_comes 14 = .ok (.aload_n 0, 1) := by decide +kernel
theorem dX5_comes_15 : decode cX5_comes 15 = .ok (.iconst 3, 1) := by decide +kernel
theorem dX5_comes_16 : decode cX5_comes 16 = .ok (.iconst 2, 1) := by decide +kernel
theorem dX5_comes_17 : decode cX5_comes 17 = .ok (.iload_n 1, 1) := by decide +kernel
theorem dX5_comes_18 : decode cX5_comes 18 = .ok (.imul, 1) := by decide +kernel
theorem dX5_comes_19 : decode cX5_comes 19 = .ok (.iadd, 1) := by decide +kernel
theorem dX5_comes_20 : decode cX5_comes 20 = .ok (.iconst 1, 1) := by decide +kernel
theorem dX5_comes_21 : decode cX5_comes 21 = .ok (.iadd, 1) := by decide +kernel
theorem dX5_comes_22 : decode cX5_comes 22 = .ok (.iload_n 2, 1) := by decide +kernel
theorem dX5_comes_23 : decode cX5_comes 23 = .ok (.invokevirtual 158, 3) := by decide +kernel
theorem dX5_comes_26 : decode cX5_comes 26 = .ok (.goto 9, 3) := by decide +kernel
theorem dX5_comes_29 : decode cX5_comes 29 = .ok (.aload_n 0, 1) := by decide +kernel
theorem dX5_comes_30 : decode cX5_comes 30 = .ok (.ldc 48, 2) := by decide +kernel
theorem dX5_comes_32 : decode cX5_comes 32 = .ok (.invokevirtual 57, 3) := by decide +kernel
theorem dX5_comes_35 : decode cX5_comes 35 = .ok (.ireturn, 1) := by decide +kernel
theorem dX5_holds_0 : decode cX5_holds 0 = .ok (.aload_n 0, 1) := by decide +kernel
theorem dX5_holds_1 : decode cX5_holds 1 = .ok (.iload_n 1, 1) := by decide +kernel
theorem dX5_holds_2 : decode cX5_holds 2 = .ok (.invokevirtual 103, 3) := by decide +kernel
theorem dX5_holds_5 : decode cX5_holds 5 = .ok (.ifCond .eq 26, 3) := by decide +kernel
theorem dX5_holds_8 : decode cX5_holds 8 = .ok (.iload_n 2, 1) := by decide +kernel
theorem dX5_holds_9 : decode cX5_holds 9 = .ok (.invokestatic 155, 3) := by decide +kernel
theorem dX5_holds_12 : decode cX5_holds 12 = .ok (.ifCond .eq 19, 3) := by decide +kernel
theorem dX5_holds_15 : decode cX5_holds 15 = .ok (.aload_n 0, 1) := by decide +kernel
theorem dX5_holds_16 : decode cX5_holds 16 = .ok (.bipush 19, 2) := by decide +kernel
theorem dX5_holds_18 : decode cX5_holds 18 = .ok (.iconst 4, 1) := by decide +kernel
theorem dX5_holds_19 : decode cX5_holds 19 = .ok (.iload_n 1, 1) := by decide +kernel
theorem dX5_holds_20 : decode cX5_holds 20 = .ok (.imul, 1) := by decide +kernel
theorem dX5_holds_21 : decode cX5_holds 21 = .ok (.iadd, 1) := by decide +kernel
theorem dX5_holds_22 : decode cX5_holds 22 = .ok (.iconst 1, 1) := by decide +kernel
theorem dX5_holds_23 : decode cX5_holds 23 = .ok (.iadd, 1) := by decide +kernel
theorem dX5_holds_24 : decode cX5_holds 24 = .ok (.iload_n 2, 1) := by decide +kernel
theorem dX5_holds_25 : decode cX5_holds 25 = .ok (.invokevirtual 158, 3) := by decide +kernel
theorem dX5_holds_28 : decode cX5_holds 28 = .ok (.goto 9, 3) := by decide +kernel
theorem dX5_holds_31 : decode cX5_holds 31 = .ok (.aload_n 0, 1) := by decide +kernel
theorem dX5_holds_32 : decode cX5_holds 32 = .ok (.ldc 48, 2) := by decide +kernel
theorem dX5_holds_34 : decode cX5_holds 34 = .ok (.invokevirtual 57, 3) := by decide +kernel
theorem dX5_holds_37 : decode cX5_holds 37 = .ok (.ireturn, 1) := by decide +kernel
theorem dX5_dustBehind_0 : decode cX5_dustBehind 0 = .ok (.aload_n 0, 1) := by decide +kernel
theorem dX5_dustBehind_1 : decode cX5_dustBehind 1 = .ok (.iload_n 1, 1) := by decide +kernel
theorem dX5_dustBehind_2 : decode cX5_dustBehind 2 = .ok (.invokevirtual 143, 3) := by decide +kernel
theorem dX5_dustBehind_5 : decode cX5_dustBehind 5 = .ok (.aload_n 0, 1) := by decide +kernel
theorem dX5_dustBehind_6 : decode cX5_dustBehind 6 = .ok (.invokevirtual 80, 3) := by decide +kernel
theorem dX5_dustBehind_9 : decode cX5_dustBehind 9 = .ok (.istore_n 2, 1) := by decide +kernel
theorem dX5_dustBehind_10 : decode cX5_dustBehind 10 = .ok (.aload_n 0, 1) := by decide +kernel
theorem dX5_dustBehind_11 : decode cX5_dustBehind 11 = .ok (.iconst 0, 1) := by decide +kernel
theorem dX5_dustBehind_12 : decode cX5_dustBehind 12 = .ok (.aload_n 0, 1) := by decide +kernel
theorem dX5_dustBehind_13 : decode cX5_dustBehind 13 = .ok (.getfield 16, 3) := by decide +kernel
theorem dX5_dustBehind_16 : decode cX5_dustBehind 16 = .ok (.invokevirtual 147, 3) := by decide +kernel
theorem dX5_dustBehind_19 : decode cX5_dustBehind 19 = .ok (.iload_n 2, 1) := by decide +kernel
theorem dX5_dustBehind_20 : decode cX5_dustBehind 20 = .ok (.ireturn, 1) := by decide +kernel
theorem dX5_memoriesBehind_0 : decode cX5_memoriesBehind 0 = .ok (.aload_n 0, 1) := by decide +kernel
theorem dX5_memoriesBehind_1 : decode cX5_memoriesBehind 1 = .ok (.iload_n 1, 1) := by decide +kernel
theorem dX5_memoriesBehind_2 : decode cX5_memoriesBehind 2 = .ok (.invokevirtual 143, 3) := by decide +kernel
theorem dX5_memoriesBehind_5 : decode cX5_memoriesBehind 5 = .ok (.aload_n 0, 1) := by decide +kernel
theorem dX5_memoriesBehind_6 : decode cX5_memoriesBehind 6 = .ok (.invokevirtual 161, 3) := by decide +kernel
theorem dX5_memoriesBehind_9 : decode cX5_memoriesBehind 9 = .ok (.istore_n 2, 1) := by decide +kernel
theorem dX5_memoriesBehind_10 : decode cX5_memoriesBehind 10 = .ok (.aload_n 0, 1) := by decide +kernel
theorem dX5_memoriesBehind_11 : decode cX5_memoriesBehind 11 = .ok (.iconst 0, 1) := by decide +kernel
theorem dX5_memoriesBehind_12 : decode cX5_memoriesBehind 12 = .ok (.aload_n 0, 1) := by decide +kernel
theorem dX5_memoriesBehind_13 : decode cX5_memoriesBehind 13 = .ok (.getfield 16, 3) := by decide +kernel
theorem dX5_memoriesBehind_16 : decode cX5_memoriesBehind 16 = .ok (.invokevirtual 147, 3) := by decide +kernel
theorem dX5_memoriesBehind_19 : decode cX5_memoriesBehind 19 = .ok (.iload_n 2, 1) := by decide +kernel
theorem dX5_memoriesBehind_20 : decode cX5_memoriesBehind 20 = .ok (.ireturn, 1) := by decide +kernel
theorem dX5_round_0 : decode cX5_round 0 = .ok (.aload_n 0, 1) := by decide +kernel
theorem dX5_round_1 : decode cX5_round 1 = .ok (.iload_n 1, 1) := by decide +kernel
theorem dX5_round_2 : decode cX5_round 2 = .ok (.invokevirtual 103, 3) := by decide +kernel
theorem dX5_round_5 : decode cX5_round 5 = .ok (.ifCond .eq 13, 3) := by decide +kernel
theorem dX5_round_8 : decode cX5_round 8 = .ok (.iload_n 2, 1) := by decide +kernel
theorem dX5_round_9 : decode cX5_round 9 = .ok (.iconst 1, 1) := by decide +kernel
theorem dX5_round_10 : decode cX5_round 10 = .ok (.bipush 40, 2) := by decide +kernel
theorem dX5_round_12 : decode cX5_round 12 = .ok (.invokestatic 49, 3) := by decide +kernel
theorem dX5_round_15 : decode cX5_round 15 = .ok (.ifCond .ne 10, 3) := by decide +kernel
theorem dX5_round_18 : decode cX5_round 18 = .ok (.aload_n 0, 1) := by decide +kernel
theorem dX5_round_19 : decode cX5_round 19 = .ok (.ldc 48, 2) := by decide +kernel
theorem dX5_round_21 : decode cX5_round 21 = .ok (.invokevirtual 57, 3) := by decide +kernel
theorem dX5_round_24 : decode cX5_round 24 = .ok (.ireturn, 1) := by decide +kernel
theorem dX5_round_25 : decode cX5_round 25 = .ok (.iconst 0, 1) := by decide +kernel
theorem dX5_round_26 : decode cX5_round 26 = .ok (.istore_n 3, 1) := by decide +kernel
theorem dX5_round_27 : decode cX5_round 27 = .ok (.sipush 793, 3) := by decide +kernel
theorem dX5_round_30 : decode cX5_round 30 = .ok (.istore 4, 2) := by decide +kernel
theorem dX5_round_32 : decode cX5_round 32 = .ok (.aload_n 0, 1) := by decide +kernel
theorem dX5_round_33 : decode cX5_round 33 = .ok (.iconst 1, 1) := by decide +kernel
theorem dX5_round_34 : decode cX5_round 34 = .ok (.aload_n 0, 1) := by decide +kernel
theorem dX5_round_35 : decode cX5_round 35 = .ok (.getfield 16, 3) := by decide +kernel
theorem dX5_round_38 : decode cX5_round 38 = .ok (.invokevirtual 147, 3) := by decide +kernel
theorem dX5_round_41 : decode cX5_round 41 = .ok (.iconst 0, 1) := by decide +kernel
theorem dX5_round_42 : decode cX5_round 42 = .ok (.istore 5, 2) := by decide +kernel
theorem dX5_round_44 : decode cX5_round 44 = .ok (.iload 5, 2) := by decide +kernel
theorem dX5_round_46 : decode cX5_round 46 = .ok (.bipush 8, 2) := by decide +kernel
theorem dX5_round_48 : decode cX5_round 48 = .ok (.if_icmp .ge 54, 3) := by decide +kernel
theorem dX5_round_51 : decode cX5_round 51 = .ok (.aload_n 0, 1) := by decide +kernel
theorem dX5_round_52 : decode cX5_round 52 = .ok (.iload_n 1, 1) := by decide +kernel
theorem dX5_round_53 : decode cX5_round 53 = .ok (.iconst 3, 1) := by decide +kernel
theorem dX5_round_54 : decode cX5_round 54 = .ok (.iload 5, 2) := by decide +kernel
theorem dX5_round_56 : decode cX5_round 56 = .ok (.invokevirtual 93, 3) := by decide +kernel
theorem dX5_round_59 : decode cX5_round 59 = .ok (.aload_n 0, 1) := by decide +kernel
theorem dX5_round_60 : decode cX5_round 60 = .ok (.iload_n 2, 1) := by decide +kernel
theorem dX5_round_61 : decode cX5_round 61 = .ok (.invokevirtual 164, 3) := by decide +kernel
theorem dX5_round_64 : decode cX5_round 64 = .ok (.istore 6, 2) := by decide +kernel
theorem dX5_round_66 : decode cX5_round 66 = .ok (.iload 6, 2) := by decide +kernel
theorem dX5_round_68 : decode cX5_round 68 = .ok (.iload 4, 2) := by decide +kernel
theorem dX5_round_70 : decode cX5_round 70 = .ok (.if_icmp .ge 8, 3) := by decide +kernel
theorem dX5_round_73 : decode cX5_round 73 = .ok (.iload 5, 2) := by decide +kernel
theorem dX5_round_75 : decode cX5_round 75 = .ok (.goto 4, 3) := by decide +kernel
theorem dX5_round_78 : decode cX5_round 78 = .ok (.iload_n 3, 1) := by decide +kernel
theorem dX5_round_79 : decode cX5_round 79 = .ok (.istore_n 3, 1) := by decide +kernel
theorem dX5_round_80 : decode cX5_round 80 = .ok (.iload 6, 2) := by decide +kernel
theorem dX5_round_82 : decode cX5_round 82 = .ok (.iload 4, 2) := by decide +kernel
theorem dX5_round_84 : decode cX5_round 84 = .ok (.if_icmp .ge 8, 3) := by decide +kernel
theorem dX5_round_87 : decode cX5_round 87 = .ok (.iload 6, 2) := by decide +kernel
theorem dX5_round_89 : decode cX5_round 89 = .ok (.goto 5, 3) := by decide +kernel
theorem dX5_round_92 : decode cX5_round 92 = .ok (.iload 4, 2) := by decide +kernel
theorem dX5_round_94 : decode cX5_round 94 = .ok (.istore 4, 2) := by decide +kernel
theorem dX5_round_96 : decode cX5_round 96 = .ok (.iinc 5 1, 3) := by decide +kernel
theorem dX5_round_99 : decode cX5_round 99 = .ok (.goto (-55), 3) := by decide +kernel
theorem dX5_round_102 : decode cX5_round 102 = .ok (.iload_n 3, 1) := by decide +kernel
theorem dX5_round_103 : decode cX5_round 103 = .ok (.ireturn, 1) := by decide +kernel
theorem dX5_mostBy_0 : decode cX5_mostBy 0 = .ok (.iconst 0, 1) := by decide +kernel
theorem dX5_mostBy_1 : decode cX5_mostBy 1 = .ok (.istore 5, 2) := by decide +kernel
theorem dX5_mostBy_3 : decode cX5_mostBy 3 = .ok (.iconst (-1), 1) := by decide +kernel
theorem dX5_mostBy_4 : decode cX5_mostBy 4 = .ok (.istore 6, 2) := by decide +kernel
theorem dX5_mostBy_6 : decode cX5_mostBy 6 = .ok (.aload_n 0, 1) := by decide +kernel
theorem dX5_mostBy_7 : decode cX5_mostBy 7 = .ok (.iconst 1, 1) := by decide +kernel
theorem dX5_mostBy_8 : decode cX5_mostBy 8 = .ok (.aload_n 0, 1) := by decide +kernel
theorem dX5_mostBy_9 : decode cX5_mostBy 9 = .ok (.getfield 16, 3) := by decide +kernel
theorem dX5_mostBy_12 : decode cX5_mostBy 12 = .ok (.invokevirtual 147, 3) := by decide +kernel
theorem dX5_mostBy_15 : decode cX5_mostBy 15 = .ok (.iconst 0, 1) := by decide +kernel
theorem dX5_mostBy_16 : decode cX5_mostBy 16 = .ok (.istore 7, 2) := by decide +kernel
theorem dX5_mostBy_18 : decode cX5_mostBy 18 = .ok (.iload 7, 2) := by decide +kernel
theorem dX5_mostBy_20 : decode cX5_mostBy 20 = .ok (.iload_n 3, 1) := by decide +kernel
theorem dX5_mostBy_21 : decode cX5_mostBy 21 = .ok (.if_icmp .gt 57, 3) := by decide +kernel
theorem dX5_mostBy_24 : decode cX5_mostBy 24 = .ok (.aload_n 0, 1) := by decide +kernel
theorem dX5_mostBy_25 : decode cX5_mostBy 25 = .ok (.iload_n 1, 1) := by decide +kernel
theorem dX5_mostBy_26 : decode cX5_mostBy 26 = .ok (.iload_n 2, 1) := by decide +kernel
theorem dX5_mostBy_27 : decode cX5_mostBy 27 = .ok (.iload 7, 2) := by decide +kernel
theorem dX5_mostBy_29 : decode cX5_mostBy 29 = .ok (.invokevirtual 93, 3) := by decide +kernel
theorem dX5_mostBy_32 : decode cX5_mostBy 32 = .ok (.aload_n 0, 1) := by decide +kernel
theorem dX5_mostBy_33 : decode cX5_mostBy 33 = .ok (.iload 4, 2) := by decide +kernel
theorem dX5_mostBy_35 : decode cX5_mostBy 35 = .ok (.invokevirtual 167, 3) := by decide +kernel
theorem dX5_mostBy_38 : decode cX5_mostBy 38 = .ok (.istore 8, 2) := by decide +kernel
theorem dX5_mostBy_40 : decode cX5_mostBy 40 = .ok (.iload 8, 2) := by decide +kernel
theorem dX5_mostBy_42 : decode cX5_mostBy 42 = .ok (.iload 6, 2) := by decide +kernel
theorem dX5_mostBy_44 : decode cX5_mostBy 44 = .ok (.if_icmp .le 8, 3) := by decide +kernel
theorem dX5_mostBy_47 : decode cX5_mostBy 47 = .ok (.iload 7, 2) := by decide +kernel
theorem dX5_mostBy_49 : decode cX5_mostBy 49 = .ok (.goto 5, 3) := by decide +kernel
theorem dX5_mostBy_52 : decode cX5_mostBy 52 = .ok (.iload 5, 2) := by decide +kernel
theorem dX5_mostBy_54 : decode cX5_mostBy 54 = .ok (.istore 5, 2) := by decide +kernel
theorem dX5_mostBy_56 : decode cX5_mostBy 56 = .ok (.iload 8, 2) := by decide +kernel
theorem dX5_mostBy_58 : decode cX5_mostBy 58 = .ok (.iload 6, 2) := by decide +kernel
theorem dX5_mostBy_60 : decode cX5_mostBy 60 = .ok (.if_icmp .le 8, 3) := by decide +kernel
theorem dX5_mostBy_63 : decode cX5_mostBy 63 = .ok (.iload 8, 2) := by decide +kernel
theorem dX5_mostBy_65 : decode cX5_mostBy 65 = .ok (.goto 5, 3) := by decide +kernel
theorem dX5_mostBy_68 : decode cX5_mostBy 68 = .ok (.iload 6, 2) := by decide +kernel
theorem dX5_mostBy_70 : decode cX5_mostBy 70 = .ok (.istore 6, 2) := by decide +kernel
theorem dX5_mostBy_72 : decode cX5_mostBy 72 = .ok (.iinc 7 1, 3) := by decide +kernel
theorem dX5_mostBy_75 : decode cX5_mostBy 75 = .ok (.goto (-57), 3) := by decide +kernel
theorem dX5_mostBy_78 : decode cX5_mostBy 78 = .ok (.iload 5, 2) := by decide +kernel
theorem dX5_mostBy_80 : decode cX5_mostBy 80 = .ok (.ireturn, 1) := by decide +kernel
theorem dX5_kind_0 : decode cX5_kind 0 = .ok (.aload_n 0, 1) := by decide +kernel
theorem dX5_kind_1 : decode cX5_kind 1 = .ok (.iload_n 1, 1) := by decide +kernel
theorem dX5_kind_2 : decode cX5_kind 2 = .ok (.invokevirtual 103, 3) := by decide +kernel
theorem dX5_kind_5 : decode cX5_kind 5 = .ok (.ifCond .eq 24, 3) := by decide +kernel
theorem dX5_kind_8 : decode cX5_kind 8 = .ok (.iload_n 2, 1) := by decide +kernel
theorem dX5_kind_9 : decode cX5_kind 9 = .ok (.iconst 1, 1) := by decide +kernel
theorem dX5_kind_10 : decode cX5_kind 10 = .ok (.bipush 40, 2) := by decide +kernel
theorem dX5_kind_12 : decode cX5_kind 12 = .ok (.invokestatic 49, 3) := by decide +kernel
theorem dX5_kind_15 : decode cX5_kind 15 = .ok (.ifCond .eq 14, 3) := by decide +kernel
theorem dX5_kind_18 : decode cX5_kind 18 = .ok (.aload_n 0, 1) := by decide +kernel
theorem dX5_kind_19 : decode cX5_kind 19 = .ok (.iload_n 1, 1) := by decide +kernel
theorem dX5_kind_20 : decode cX5_kind 20 = .ok (.iconst 0, 1) := by decide +kernel
theorem dX5_kind_21 : decode cX5_kind 21 = .ok (.iconst 5, 1) := by decide +kernel
theorem dX5_kind_22 : decode cX5_kind 22 = .ok (.iload_n 2, 1) := by decide +kernel
theorem dX5_kind_23 : decode cX5_kind 23 = .ok (.invokevirtual 170, 3) := by decide +kernel
theorem dX5_kind_26 : decode cX5_kind 26 = .ok (.goto 9, 3) := by decide +kernel
theorem dX5_kind_29 : decode cX5_kind 29 = .ok (.aload_n 0, 1) := by decide +kernel
theorem dX5_kind_30 : decode cX5_kind 30 = .ok (.ldc 48, 2) := by decide +kernel
theorem dX5_kind_32 : decode cX5_kind 32 = .ok (.invokevirtual 57, 3) := by decide +kernel
theorem dX5_kind_35 : decode cX5_kind 35 = .ok (.ireturn, 1) := by decide +kernel
theorem dX5_grime_0 : decode cX5_grime 0 = .ok (.aload_n 0, 1) := by decide +kernel
theorem dX5_grime_1 : decode cX5_grime 1 = .ok (.iload_n 1, 1) := by decide +kernel
theorem dX5_grime_2 : decode cX5_grime 2 = .ok (.invokevirtual 103, 3) := by decide +kernel
theorem dX5_grime_5 : decode cX5_grime 5 = .ok (.ifCond .eq 25, 3) := by decide +kernel
theorem dX5_grime_8 : decode cX5_grime 8 = .ok (.iload_n 2, 1) := by decide +kernel
theorem dX5_grime_9 : decode cX5_grime 9 = .ok (.iconst 1, 1) := by decide +kernel
theorem dX5_grime_10 : decode cX5_grime 10 = .ok (.bipush 40, 2) := by decide +kernel
theorem dX5_grime_12 : decode cX5_grime 12 = .ok (.invokestatic 49, 3) := by decide +kernel
theorem dX5_grime_15 : decode cX5_grime 15 = .ok (.ifCond .eq 15, 3) := by decide +kernel
theorem dX5_grime_18 : decode cX5_grime 18 = .ok (.aload_n 0, 1) := by decide +kernel
theorem dX5_grime_19 : decode cX5_grime 19 = .ok (.iload_n 1, 1) := by decide +kernel
theorem dX5_grime_20 : decode cX5_grime 20 = .ok (.iconst 2, 1) := by decide +kernel
theorem dX5_grime_21 : decode cX5_grime 21 = .ok (.bipush 99, 2) := by decide +kernel
theorem dX5_grime_23 : decode cX5_grime 23 = .ok (.iload_n 2, 1) := by decide +kernel
theorem dX5_grime_24 : decode cX5_grime 24 = .ok (.invokevirtual 170, 3) := by decide +kernel
theorem dX5_grime_27 : decode cX5_grime 27 = .ok (.goto 9, 3) := by decide +kernel
theorem dX5_grime_30 : decode cX5_grime 30 = .ok (.aload_n 0, 1) := by decide +kernel
theorem dX5_grime_31 : decode cX5_grime 31 = .ok (.ldc 48, 2) := by decide +kernel
theorem dX5_grime_33 : decode cX5_grime 33 = .ok (.invokevirtual 57, 3) := by decide +kernel
theorem dX5_grime_36 : decode cX5_grime 36 = .ok (.ireturn, 1) := by decide +kernel
theorem dX5_best_0 : decode cX5_best 0 = .ok (.iload_n 1, 1) := by decide +kernel
theorem dX5_best_1 : decode cX5_best 1 = .ok (.iconst 1, 1) := by decide +kernel
theorem dX5_best_2 : decode cX5_best 2 = .ok (.bipush 40, 2) := by decide +kernel
theorem dX5_best_4 : decode cX5_best 4 = .ok (.invokestatic 49, 3) := by decide +kernel
theorem dX5_best_7 : decode cX5_best 7 = .ok (.ifCond .ne 10, 3) := by decide +kernel
theorem dX5_best_10 : decode cX5_best 10 = .ok (.aload_n 0, 1) := by decide +kernel
theorem dX5_best_11 : decode cX5_best 11 = .ok (.ldc 48, 2) := by decide +kernel
theorem dX5_best_13 : decode cX5_best 13 = .ok (.invokevirtual 57, 3) := by decide +kernel
theorem dX5_best_16 : decode cX5_best 16 = .ok (.ireturn, 1) := by decide +kernel
theorem dX5_best_17 : decode cX5_best 17 = .ok (.iconst (-1), 1) := by decide +kernel
theorem dX5_best_18 : decode cX5_best 18 = .ok (.istore_n 2, 1) := by decide +kernel
theorem dX5_best_19 : decode cX5_best 19 = .ok (.sipush 793, 3) := by decide +kernel
theorem dX5_best_22 : decode cX5_best 22 = .ok (.istore_n 3, 1) := by decide +kernel
theorem dX5_best_23 : decode cX5_best 23 = .ok (.aload_n 0, 1) := by decide +kernel
theorem dX5_best_24 : decode cX5_best 24 = .ok (.iconst 1, 1) := by decide +kernel
theorem dX5_best_25 : decode cX5_best 25 = .ok (.aload_n 0, 1) := by decide +kernel
theorem dX5_best_26 : decode cX5_best 26 = .ok (.getfield 16, 3) := by decide +kernel
theorem dX5_best_29 : decode cX5_best 29 = .ok (.invokevirtual 147, 3) := by decide +kernel
theorem dX5_best_32 : decode cX5_best 32 = .ok (.iconst 0, 1) := by decide +kernel
theorem dX5_best_33 : decode cX5_best 33 = .ok (.istore 4, 2) := by decide +kernel
theorem dX5_best_35 : decode cX5_best 35 = .ok (.iload 4, 2) := by decide +kernel
theorem dX5_best_37 : decode cX5_best 37 = .ok (.aload_n 0, 1) := by decide +kernel
theorem dX5_best_38 : decode cX5_best 38 = .ok (.getfield 7, 3) := by decide +kernel
theorem dX5_best_41 : decode cX5_best 41 = .ok (.iconst 2, 1) := by decide +kernel
theorem dX5_best_42 : decode cX5_best 42 = .ok (.iaload, 1) := by decide +kernel
