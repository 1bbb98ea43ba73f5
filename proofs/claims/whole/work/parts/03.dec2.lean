/-! by program: decode rows of the reference -/
theorem d_m_init_0 : decode cc_m_init 0 = .ok (.aload_n 0, 1) := by decide +kernel
theorem d_m_init_1 : decode cc_m_init 1 = .ok (.invokespecial 1, 3) := by decide +kernel
theorem d_m_init_4 : decode cc_m_init 4 = .ok (.aload_n 0, 1) := by decide +kernel
theorem d_m_init_5 : decode cc_m_init 5 = .ok (.bipush 6, 2) := by decide +kernel
theorem d_m_init_7 : decode cc_m_init 7 = .ok (.newarray .int, 2) := by decide +kernel
theorem d_m_init_9 : decode cc_m_init 9 = .ok (.putfield 7, 3) := by decide +kernel
theorem d_m_init_12 : decode cc_m_init 12 = .ok (.aload_n 0, 1) := by decide +kernel
theorem d_m_init_13 : decode cc_m_init 13 = .ok (.bipush 6, 2) := by decide +kernel
theorem d_m_init_15 : decode cc_m_init 15 = .ok (.newarray .int, 2) := by decide +kernel
theorem d_m_init_17 : decode cc_m_init 17 = .ok (.putfield 13, 3) := by decide +kernel
theorem d_m_init_20 : decode cc_m_init 20 = .ok (.aload_n 0, 1) := by decide +kernel
theorem d_m_init_21 : decode cc_m_init 21 = .ok (.bipush 6, 2) := by decide +kernel
theorem d_m_init_23 : decode cc_m_init 23 = .ok (.newarray .int, 2) := by decide +kernel
theorem d_m_init_25 : decode cc_m_init 25 = .ok (.putfield 16, 3) := by decide +kernel
theorem d_m_init_28 : decode cc_m_init 28 = .ok (.aload_n 0, 1) := by decide +kernel
theorem d_m_init_29 : decode cc_m_init 29 = .ok (.bipush 100, 2) := by decide +kernel
theorem d_m_init_31 : decode cc_m_init 31 = .ok (.putfield 19, 3) := by decide +kernel
theorem d_m_init_34 : decode cc_m_init 34 = .ok (.aload_n 0, 1) := by decide +kernel
theorem d_m_init_35 : decode cc_m_init 35 = .ok (.bipush 10, 2) := by decide +kernel
theorem d_m_init_37 : decode cc_m_init 37 = .ok (.putfield 23, 3) := by decide +kernel
theorem d_m_init_40 : decode cc_m_init 40 = .ok (.aload_n 0, 1) := by decide +kernel
theorem d_m_init_41 : decode cc_m_init 41 = .ok (.sipush 200, 3) := by decide +kernel
theorem d_m_init_44 : decode cc_m_init 44 = .ok (.putfield 26, 3) := by decide +kernel
theorem d_m_init_47 : decode cc_m_init 47 = .ok (.aload_n 0, 1) := by decide +kernel
theorem d_m_init_48 : decode cc_m_init 48 = .ok (.sipush 300, 3) := by decide +kernel
theorem d_m_init_51 : decode cc_m_init 51 = .ok (.newarray .int, 2) := by decide +kernel
theorem d_m_init_53 : decode cc_m_init 53 = .ok (.putfield 29, 3) := by decide +kernel
theorem d_m_init_56 : decode cc_m_init 56 = .ok (.aload_n 0, 1) := by decide +kernel
theorem d_m_init_57 : decode cc_m_init 57 = .ok (.sipush 300, 3) := by decide +kernel
theorem d_m_init_60 : decode cc_m_init 60 = .ok (.newarray .int, 2) := by decide +kernel
theorem d_m_init_62 : decode cc_m_init 62 = .ok (.putfield 32, 3) := by decide +kernel
theorem d_m_init_65 : decode cc_m_init 65 = .ok (.aload_n 0, 1) := by decide +kernel
theorem d_m_init_66 : decode cc_m_init 66 = .ok (.sipush 300, 3) := by decide +kernel
theorem d_m_init_69 : decode cc_m_init 69 = .ok (.newarray .int, 2) := by decide +kernel
theorem d_m_init_71 : decode cc_m_init 71 = .ok (.putfield 35, 3) := by decide +kernel
theorem d_m_init_74 : decode cc_m_init 74 = .ok (.aload_n 0, 1) := by decide +kernel
theorem d_m_init_75 : decode cc_m_init 75 = .ok (.sipush 300, 3) := by decide +kernel
theorem d_m_init_78 : decode cc_m_init 78 = .ok (.newarray .int, 2) := by decide +kernel
theorem d_m_init_80 : decode cc_m_init 80 = .ok (.putfield 38, 3) := by decide +kernel
theorem d_m_init_83 : decode cc_m_init 83 = .ok (.aload_n 0, 1) := by decide +kernel
theorem d_m_init_84 : decode cc_m_init 84 = .ok (.sipush 300, 3) := by decide +kernel
theorem d_m_init_87 : decode cc_m_init 87 = .ok (.newarray .boolean, 2) := by decide +kernel
theorem d_m_init_89 : decode cc_m_init 89 = .ok (.putfield 41, 3) := by decide +kernel
theorem d_m_init_92 : decode cc_m_init 92 = .ok (.aload_n 0, 1) := by decide +kernel
theorem d_m_init_93 : decode cc_m_init 93 = .ok (.sipush 201, 3) := by decide +kernel
theorem d_m_init_96 : decode cc_m_init 96 = .ok (.newarray .int, 2) := by decide +kernel
theorem d_m_init_98 : decode cc_m_init 98 = .ok (.putfield 45, 3) := by decide +kernel
theorem d_m_init_101 : decode cc_m_init 101 = .ok (.aload_n 0, 1) := by decide +kernel
theorem d_m_init_102 : decode cc_m_init 102 = .ok (.sipush 201, 3) := by decide +kernel
theorem d_m_init_105 : decode cc_m_init 105 = .ok (.newarray .int, 2) := by decide +kernel
theorem d_m_init_107 : decode cc_m_init 107 = .ok (.putfield 48, 3) := by decide +kernel
theorem d_m_init_110 : decode cc_m_init 110 = .ok (.aload_n 0, 1) := by decide +kernel
theorem d_m_init_111 : decode cc_m_init 111 = .ok (.sipush 201, 3) := by decide +kernel
theorem d_m_init_114 : decode cc_m_init 114 = .ok (.newarray .int, 2) := by decide +kernel
theorem d_m_init_116 : decode cc_m_init 116 = .ok (.putfield 51, 3) := by decide +kernel
theorem d_m_init_119 : decode cc_m_init 119 = .ok (.aload_n 0, 1) := by decide +kernel
theorem d_m_init_120 : decode cc_m_init 120 = .ok (.sipush 201, 3) := by decide +kernel
theorem d_m_init_123 : decode cc_m_init 123 = .ok (.newarray .int, 2) := by decide +kernel
theorem d_m_init_125 : decode cc_m_init 125 = .ok (.putfield 54, 3) := by decide +kernel
theorem d_m_init_128 : decode cc_m_init 128 = .ok (.aload_n 0, 1) := by decide +kernel
theorem d_m_init_129 : decode cc_m_init 129 = .ok (.sipush 201, 3) := by decide +kernel
theorem d_m_init_132 : decode cc_m_init 132 = .ok (.newarray .int, 2) := by decide +kernel
theorem d_m_init_134 : decode cc_m_init 134 = .ok (.putfield 57, 3) := by decide +kernel
theorem d_m_init_137 : decode cc_m_init 137 = .ok (.return_, 1) := by decide +kernel
theorem d_m_thrown_0 : decode cc_m_thrown 0 = .ok (.aload_n 0, 1) := by decide +kernel
theorem d_m_thrown_1 : decode cc_m_thrown 1 = .ok (.getfield 60, 3) := by decide +kernel
theorem d_m_thrown_4 : decode cc_m_thrown 4 = .ok (.ireturn, 1) := by decide +kernel
theorem d_m_in_0 : decode cc_m_in 0 = .ok (.iload_n 0, 1) := by decide +kernel
theorem d_m_in_1 : decode cc_m_in 1 = .ok (.iload_n 1, 1) := by decide +kernel
theorem d_m_in_2 : decode cc_m_in 2 = .ok (.if_icmp .lt 12, 3) := by decide +kernel
theorem d_m_in_5 : decode cc_m_in 5 = .ok (.iload_n 0, 1) := by decide +kernel
theorem d_m_in_6 : decode cc_m_in 6 = .ok (.iload_n 2, 1) := by decide +kernel
theorem d_m_in_7 : decode cc_m_in 7 = .ok (.if_icmp .gt 7, 3) := by decide +kernel
theorem d_m_in_10 : decode cc_m_in 10 = .ok (.iconst 1, 1) := by decide +kernel
theorem d_m_in_11 : decode cc_m_in 11 = .ok (.goto 4, 3) := by decide +kernel
theorem d_m_in_14 : decode cc_m_in 14 = .ok (.iconst 0, 1) := by decide +kernel
theorem d_m_in_15 : decode cc_m_in 15 = .ok (.ireturn, 1) := by decide +kernel
theorem d_m_goes_0 : decode cc_m_goes 0 = .ok (.aload_n 0, 1) := by decide +kernel
theorem d_m_goes_1 : decode cc_m_goes 1 = .ok (.iload_n 1, 1) := by decide +kernel
theorem d_m_goes_2 : decode cc_m_goes 2 = .ok (.ifCond .ne 7, 3) := by decide +kernel
theorem d_m_goes_5 : decode cc_m_goes 5 = .ok (.iconst 1, 1) := by decide +kernel
theorem d_m_goes_6 : decode cc_m_goes 6 = .ok (.goto 20, 3) := by decide +kernel
theorem d_m_goes_9 : decode cc_m_goes 9 = .ok (.iload_n 2, 1) := by decide +kernel
theorem d_m_goes_10 : decode cc_m_goes 10 = .ok (.ifCond .ne 7, 3) := by decide +kernel
theorem d_m_goes_13 : decode cc_m_goes 13 = .ok (.iconst 2, 1) := by decide +kernel
theorem d_m_goes_14 : decode cc_m_goes 14 = .ok (.goto 12, 3) := by decide +kernel
theorem d_m_goes_17 : decode cc_m_goes 17 = .ok (.iload_n 3, 1) := by decide +kernel
theorem d_m_goes_18 : decode cc_m_goes 18 = .ok (.ifCond .ne 7, 3) := by decide +kernel
theorem d_m_goes_21 : decode cc_m_goes 21 = .ok (.iconst 3, 1) := by decide +kernel
theorem d_m_goes_22 : decode cc_m_goes 22 = .ok (.goto 4, 3) := by decide +kernel
theorem d_m_goes_25 : decode cc_m_goes 25 = .ok (.iconst 0, 1) := by decide +kernel
theorem d_m_goes_26 : decode cc_m_goes 26 = .ok (.putfield 60, 3) := by decide +kernel
theorem d_m_goes_29 : decode cc_m_goes 29 = .ok (.aload_n 0, 1) := by decide +kernel
theorem d_m_goes_30 : decode cc_m_goes 30 = .ok (.getfield 60, 3) := by decide +kernel
theorem d_m_goes_33 : decode cc_m_goes 33 = .ok (.ifCond .ne 7, 3) := by decide +kernel
theorem d_m_goes_36 : decode cc_m_goes 36 = .ok (.iconst 1, 1) := by decide +kernel
theorem d_m_goes_37 : decode cc_m_goes 37 = .ok (.goto 4, 3) := by decide +kernel
theorem d_m_goes_40 : decode cc_m_goes 40 = .ok (.iconst 0, 1) := by decide +kernel
theorem d_m_goes_41 : decode cc_m_goes 41 = .ok (.ireturn, 1) := by decide +kernel
theorem d_m_isWanted_0 : decode cc_m_isWanted 0 = .ok (.iload_n 1, 1) := by decide +kernel
theorem d_m_isWanted_1 : decode cc_m_isWanted 1 = .ok (.iconst 0, 1) := by decide +kernel
theorem d_m_isWanted_2 : decode cc_m_isWanted 2 = .ok (.aload_n 0, 1) := by decide +kernel
theorem d_m_isWanted_3 : decode cc_m_isWanted 3 = .ok (.getfield 63, 3) := by decide +kernel
theorem d_m_isWanted_6 : decode cc_m_isWanted 6 = .ok (.iconst 1, 1) := by decide +kernel
theorem d_m_isWanted_7 : decode cc_m_isWanted 7 = .ok (.isub, 1) := by decide +kernel
theorem d_m_isWanted_8 : decode cc_m_isWanted 8 = .ok (.invokestatic 66, 3) := by decide +kernel
theorem d_m_isWanted_11 : decode cc_m_isWanted 11 = .ok (.ireturn, 1) := by decide +kernel
theorem d_m_room_0 : decode cc_m_room 0 = .ok (.iload_n 0, 1) := by decide +kernel
theorem d_m_room_1 : decode cc_m_room 1 = .ok (.iload_n 1, 1) := by decide +kernel
theorem d_m_room_2 : decode cc_m_room 2 = .ok (.isub, 1) := by decide +kernel
theorem d_m_room_3 : decode cc_m_room 3 = .ok (.iload_n 2, 1) := by decide +kernel
theorem d_m_room_4 : decode cc_m_room 4 = .ok (.isub, 1) := by decide +kernel
theorem d_m_room_5 : decode cc_m_room 5 = .ok (.iload_n 3, 1) := by decide +kernel
theorem d_m_room_6 : decode cc_m_room 6 = .ok (.isub, 1) := by decide +kernel
theorem d_m_room_7 : decode cc_m_room 7 = .ok (.istore 4, 2) := by decide +kernel
theorem d_m_room_9 : decode cc_m_room 9 = .ok (.iload 4, 2) := by decide +kernel
theorem d_m_room_11 : decode cc_m_room 11 = .ok (.ifCond .le 8, 3) := by decide +kernel
theorem d_m_room_14 : decode cc_m_room 14 = .ok (.iload 4, 2) := by decide +kernel
theorem d_m_room_16 : decode cc_m_room 16 = .ok (.goto 4, 3) := by decide +kernel
theorem d_m_room_19 : decode cc_m_room 19 = .ok (.iconst 0, 1) := by decide +kernel
theorem d_m_room_20 : decode cc_m_room 20 = .ok (.ireturn, 1) := by decide +kernel
theorem d_m_taken_0 : decode cc_m_taken 0 = .ok (.iconst 0, 1) := by decide +kernel
theorem d_m_taken_1 : decode cc_m_taken 1 = .ok (.istore_n 1, 1) := by decide +kernel
theorem d_m_taken_2 : decode cc_m_taken 2 = .ok (.aload_n 0, 1) := by decide +kernel
theorem d_m_taken_3 : decode cc_m_taken 3 = .ok (.getfield 70, 3) := by decide +kernel
theorem d_m_taken_6 : decode cc_m_taken 6 = .ok (.istore_n 2, 1) := by decide +kernel
theorem d_m_taken_7 : decode cc_m_taken 7 = .ok (.iload_n 2, 1) := by decide +kernel
theorem d_m_taken_8 : decode cc_m_taken 8 = .ok (.aload_n 0, 1) := by decide +kernel
theorem d_m_taken_9 : decode cc_m_taken 9 = .ok (.getfield 73, 3) := by decide +kernel
theorem d_m_taken_12 : decode cc_m_taken 12 = .ok (.if_icmp .ge 18, 3) := by decide +kernel
theorem d_m_taken_15 : decode cc_m_taken 15 = .ok (.iload_n 1, 1) := by decide +kernel
theorem d_m_taken_16 : decode cc_m_taken 16 = .ok (.aload_n 0, 1) := by decide +kernel
theorem d_m_taken_17 : decode cc_m_taken 17 = .ok (.getfield 32, 3) := by decide +kernel
theorem d_m_taken_20 : decode cc_m_taken 20 = .ok (.iload_n 2, 1) := by decide +kernel
theorem d_m_taken_21 : decode cc_m_taken 21 = .ok (.iaload, 1) := by decide +kernel
theorem d_m_taken_22 : decode cc_m_taken 22 = .ok (.iadd, 1) := by decide +kernel
theorem d_m_taken_23 : decode cc_m_taken 23 = .ok (.istore_n 1, 1) := by decide +kernel
theorem d_m_taken_24 : decode cc_m_taken 24 = .ok (.iinc 2 1, 3) := by decide +kernel
theorem d_m_taken_27 : decode cc_m_taken 27 = .ok (.goto (-20), 3) := by decide +kernel
theorem d_m_taken_30 : decode cc_m_taken 30 = .ok (.iload_n 1, 1) := by decide +kernel
theorem d_m_taken_31 : decode cc_m_taken 31 = .ok (.ireturn, 1) := by decide +kernel
theorem d_m_left_0 : decode cc_m_left 0 = .ok (.aload_n 0, 1) := by decide +kernel
theorem d_m_left_1 : decode cc_m_left 1 = .ok (.getfield 19, 3) := by decide +kernel
theorem d_m_left_4 : decode cc_m_left 4 = .ok (.aload_n 0, 1) := by decide +kernel
theorem d_m_left_5 : decode cc_m_left 5 = .ok (.getfield 76, 3) := by decide +kernel
theorem d_m_left_8 : decode cc_m_left 8 = .ok (.aload_n 0, 1) := by decide +kernel
theorem d_m_left_9 : decode cc_m_left 9 = .ok (.getfield 79, 3) := by decide +kernel
theorem d_m_left_12 : decode cc_m_left 12 = .ok (.aload_n 0, 1) := by decide +kernel
theorem d_m_left_13 : decode cc_m_left 13 = .ok (.getfield 82, 3) := by decide +kernel
theorem d_m_left_16 : decode cc_m_left 16 = .ok (.invokestatic 85, 3) := by decide +kernel
theorem d_m_left_19 : decode cc_m_left 19 = .ok (.aload_n 0, 1) := by decide +kernel
theorem d_m_left_20 : decode cc_m_left 20 = .ok (.invokevirtual 89, 3) := by decide +kernel
theorem d_m_left_23 : decode cc_m_left 23 = .ok (.isub, 1) := by decide +kernel
theorem d_m_left_24 : decode cc_m_left 24 = .ok (.ireturn, 1) := by decide +kernel
theorem d_m_want_0 : decode cc_m_want 0 = .ok (.aload_n 0, 1) := by decide +kernel
theorem d_m_want_1 : decode cc_m_want 1 = .ok (.iload_n 1, 1) := by decide +kernel
theorem d_m_want_2 : decode cc_m_want 2 = .ok (.iconst 1, 1) := by decide +kernel
theorem d_m_want_3 : decode cc_m_want 3 = .ok (.sipush 200, 3) := by decide +kernel
theorem d_m_want_6 : decode cc_m_want 6 = .ok (.invokestatic 66, 3) := by decide +kernel
theorem d_m_want_9 : decode cc_m_want 9 = .ok (.ifCond .eq 28, 3) := by decide +kernel
theorem d_m_want_12 : decode cc_m_want 12 = .ok (.iload_n 2, 1) := by decide +kernel
theorem d_m_want_13 : decode cc_m_want 13 = .ok (.iload_n 1, 1) := by decide +kernel
theorem d_m_want_14 : decode cc_m_want 14 = .ok (.sipush 200, 3) := by decide +kernel
theorem d_m_want_17 : decode cc_m_want 17 = .ok (.invokestatic 66, 3) := by decide +kernel
theorem d_m_want_20 : decode cc_m_want 20 = .ok (.ifCond .eq 17, 3) := by decide +kernel
theorem d_m_want_23 : decode cc_m_want 23 = .ok (.iload_n 3, 1) := by decide +kernel
theorem d_m_want_24 : decode cc_m_want 24 = .ok (.iconst 0, 1) := by decide +kernel
theorem d_m_want_25 : decode cc_m_want 25 = .ok (.bipush 9, 2) := by decide +kernel
theorem d_m_want_27 : decode cc_m_want 27 = .ok (.invokestatic 66, 3) := by decide +kernel
theorem d_m_want_30 : decode cc_m_want 30 = .ok (.ifCond .eq 7, 3) := by decide +kernel
theorem d_m_want_33 : decode cc_m_want 33 = .ok (.iconst 1, 1) := by decide +kernel
theorem d_m_want_34 : decode cc_m_want 34 = .ok (.goto 4, 3) := by decide +kernel
theorem d_m_want_37 : decode cc_m_want 37 = .ok (.iconst 0, 1) := by decide +kernel
theorem d_m_want_38 : decode cc_m_want 38 = .ok (.aload_n 0, 1) := by decide +kernel
theorem d_m_want_39 : decode cc_m_want 39 = .ok (.getfield 63, 3) := by decide +kernel
theorem d_m_want_42 : decode cc_m_want 42 = .ok (.bipush 6, 2) := by decide +kernel
theorem d_m_want_44 : decode cc_m_want 44 = .ok (.if_icmp .ge 7, 3) := by decide +kernel
theorem d_m_want_47 : decode cc_m_want 47 = .ok (.iconst 1, 1) := by decide +kernel
theorem d_m_want_48 : decode cc_m_want 48 = .ok (.goto 4, 3) := by decide +kernel
theorem d_m_want_51 : decode cc_m_want 51 = .ok (.iconst 0, 1) := by decide +kernel
theorem d_m_want_52 : decode cc_m_want 52 = .ok (.iconst 1, 1) := by decide +kernel
theorem d_m_want_53 : decode cc_m_want 53 = .ok (.invokevirtual 93, 3) := by decide +kernel
theorem d_m_want_56 : decode cc_m_want 56 = .ok (.ifCond .ne 5, 3) := by decide +kernel
theorem d_m_want_59 : decode cc_m_want 59 = .ok (.iconst 0, 1) := by decide +kernel
theorem d_m_want_60 : decode cc_m_want 60 = .ok (.ireturn, 1) := by decide +kernel
theorem d_m_want_61 : decode cc_m_want 61 = .ok (.aload_n 0, 1) := by decide +kernel
theorem d_m_want_62 : decode cc_m_want 62 = .ok (.getfield 7, 3) := by decide +kernel
theorem d_m_want_65 : decode cc_m_want 65 = .ok (.aload_n 0, 1) := by decide +kernel
theorem d_m_want_66 : decode cc_m_want 66 = .ok (.getfield 63, 3) := by decide +kernel
theorem d_m_want_69 : decode cc_m_want 69 = .ok (.iload_n 1, 1) := by decide +kernel
theorem d_m_want_70 : decode cc_m_want 70 = .ok (.iastore, 1) := by decide +kernel
theorem d_m_want_71 : decode cc_m_want 71 = .ok (.aload_n 0, 1) := by decide +kernel
theorem d_m_want_72 : decode cc_m_want 72 = .ok (.getfield 13, 3) := by decide +kernel
theorem d_m_want_75 : decode cc_m_want 75 = .ok (.aload_n 0, 1) := by decide +kernel
theorem d_m_want_76 : decode cc_m_want 76 = .ok (.getfield 63, 3) := by decide +kernel
theorem d_m_want_79 : decode cc_m_want 79 = .ok (.iload_n 2, 1) := by decide +kernel
theorem d_m_want_80 : decode cc_m_want 80 = .ok (.iastore, 1) := by decide +kernel
theorem d_m_want_81 : decode cc_m_want 81 = .ok (.aload_n 0, 1) := by decide +kernel
theorem d_m_want_82 : decode cc_m_want 82 = .ok (.getfield 16, 3) := by decide +kernel
theorem d_m_want_85 : decode cc_m_want 85 = .ok (.aload_n 0, 1) := by decide +kernel
theorem d_m_want_86 : decode cc_m_want 86 = .ok (.getfield 63, 3) := by decide +kernel
theorem d_m_want_89 : decode cc_m_want 89 = .ok (.iload_n 3, 1) := by decide +kernel
theorem d_m_want_90 : decode cc_m_want 90 = .ok (.iastore, 1) := by decide +kernel
theorem d_m_want_91 : decode cc_m_want 91 = .ok (.aload_n 0, 1) := by decide +kernel
theorem d_m_want_92 : decode cc_m_want 92 = .ok (.dup, 1) := by decide +kernel
theorem d_m_want_93 : decode cc_m_want 93 = .ok (.getfield 63, 3) := by decide +kernel
theorem d_m_want_96 : decode cc_m_want 96 = .ok (.iconst 1, 1) := by decide +kernel
theorem d_m_want_97 : decode cc_m_want 97 = .ok (.iadd, 1) := by decide +kernel
theorem d_m_want_98 : decode cc_m_want 98 = .ok (.putfield 63, 3) := by decide +kernel
theorem d_m_want_101 : decode cc_m_want 101 = .ok (.aload_n 0, 1) := by decide +kernel
theorem d_m_want_102 : decode cc_m_want 102 = .ok (.getfield 63, 3) := by decide +kernel
theorem d_m_want_105 : decode cc_m_want 105 = .ok (.iconst 1, 1) := by decide +kernel
theorem d_m_want_106 : decode cc_m_want 106 = .ok (.isub, 1) := by decide +kernel
theorem d_m_want_107 : decode cc_m_want 107 = .ok (.ireturn, 1) := by decide +kernel
theorem d_m_bar_0 : decode cc_m_bar 0 = .ok (.aload_n 0, 1) := by decide +kernel
theorem d_m_bar_1 : decode cc_m_bar 1 = .ok (.iload_n 1, 1) := by decide +kernel
theorem d_m_bar_2 : decode cc_m_bar 2 = .ok (.iconst 1, 1) := by decide +kernel
theorem d_m_bar_3 : decode cc_m_bar 3 = .ok (.sipush 200, 3) := by decide +kernel
theorem d_m_bar_6 : decode cc_m_bar 6 = .ok (.invokestatic 66, 3) := by decide +kernel
theorem d_m_bar_9 : decode cc_m_bar 9 = .ok (.ifCond .eq 17, 3) := by decide +kernel
theorem d_m_bar_12 : decode cc_m_bar 12 = .ok (.iload_n 2, 1) := by decide +kernel
theorem d_m_bar_13 : decode cc_m_bar 13 = .ok (.iconst 0, 1) := by decide +kernel
theorem d_m_bar_14 : decode cc_m_bar 14 = .ok (.bipush 50, 2) := by decide +kernel
theorem d_m_bar_16 : decode cc_m_bar 16 = .ok (.invokestatic 66, 3) := by decide +kernel
theorem d_m_bar_19 : decode cc_m_bar 19 = .ok (.ifCond .eq 7, 3) := by decide +kernel
theorem d_m_bar_22 : decode cc_m_bar 22 = .ok (.iconst 1, 1) := by decide +kernel
theorem d_m_bar_23 : decode cc_m_bar 23 = .ok (.goto 4, 3) := by decide +kernel
theorem d_m_bar_26 : decode cc_m_bar 26 = .ok (.iconst 0, 1) := by decide +kernel
theorem d_m_bar_27 : decode cc_m_bar 27 = .ok (.iconst 1, 1) := by decide +kernel
theorem d_m_bar_28 : decode cc_m_bar 28 = .ok (.iconst 1, 1) := by decide +kernel
theorem d_m_bar_29 : decode cc_m_bar 29 = .ok (.invokevirtual 93, 3) := by decide +kernel
theorem d_m_bar_32 : decode cc_m_bar 32 = .ok (.ifCond .ne 4, 3) := by decide +kernel
theorem d_m_bar_35 : decode cc_m_bar 35 = .ok (.return_, 1) := by decide +kernel
theorem d_m_bar_36 : decode cc_m_bar 36 = .ok (.aload_n 0, 1) := by decide +kernel
theorem d_m_bar_37 : decode cc_m_bar 37 = .ok (.iload_n 1, 1) := by decide +kernel
theorem d_m_bar_38 : decode cc_m_bar 38 = .ok (.putfield 19, 3) := by decide +kernel
theorem d_m_bar_41 : decode cc_m_bar 41 = .ok (.aload_n 0, 1) := by decide +kernel
theorem d_m_bar_42 : decode cc_m_bar 42 = .ok (.iload_n 2, 1) := by decide +kernel
theorem d_m_bar_43 : decode cc_m_bar 43 = .ok (.putfield 76, 3) := by decide +kernel
theorem d_m_bar_46 : decode cc_m_bar 46 = .ok (.aload_n 0, 1) := by decide +kernel
theorem d_m_bar_47 : decode cc_m_bar 47 = .ok (.aload_n 0, 1) := by decide +kernel
theorem d_m_bar_48 : decode cc_m_bar 48 = .ok (.getfield 73, 3) := by decide +kernel
theorem d_m_bar_51 : decode cc_m_bar 51 = .ok (.putfield 70, 3) := by decide +kernel
theorem d_m_bar_54 : decode cc_m_bar 54 = .ok (.return_, 1) := by decide +kernel
theorem d_m_crop_0 : decode cc_m_crop 0 = .ok (.iload_n 1, 1) := by decide +kernel
theorem d_m_crop_1 : decode cc_m_crop 1 = .ok (.iconst 0, 1) := by decide +kernel
theorem d_m_crop_2 : decode cc_m_crop 2 = .ok (.bipush 100, 2) := by decide +kernel
theorem d_m_crop_4 : decode cc_m_crop 4 = .ok (.invokestatic 66, 3) := by decide +kernel
theorem d_m_crop_7 : decode cc_m_crop 7 = .ok (.ifCond .eq 17, 3) := by decide +kernel
theorem d_m_crop_10 : decode cc_m_crop 10 = .ok (.iload_n 2, 1) := by decide +kernel
theorem d_m_crop_11 : decode cc_m_crop 11 = .ok (.iconst 0, 1) := by decide +kernel
theorem d_m_crop_12 : decode cc_m_crop 12 = .ok (.bipush 100, 2) := by decide +kernel
theorem d_m_crop_14 : decode cc_m_crop 14 = .ok (.invokestatic 66, 3) := by decide +kernel
theorem d_m_crop_17 : decode cc_m_crop 17 = .ok (.ifCond .eq 7, 3) := by decide +kernel
theorem d_m_crop_20 : decode cc_m_crop 20 = .ok (.iconst 1, 1) := by decide +kernel
theorem d_m_crop_21 : decode cc_m_crop 21 = .ok (.goto 4, 3) := by decide +kernel
theorem d_m_crop_24 : decode cc_m_crop 24 = .ok (.iconst 0, 1) := by decide +kernel
theorem d_m_crop_25 : decode cc_m_crop 25 = .ok (.istore_n 3, 1) := by decide +kernel
theorem d_m_crop_26 : decode cc_m_crop 26 = .ok (.iload_n 3, 1) := by decide +kernel
theorem d_m_crop_27 : decode cc_m_crop 27 = .ok (.ifCond .eq 46, 3) := by decide +kernel
theorem d_m_crop_30 : decode cc_m_crop 30 = .ok (.iload_n 1, 1) := by decide +kernel
theorem d_m_crop_31 : decode cc_m_crop 31 = .ok (.aload_n 0, 1) := by decide +kernel
theorem d_m_crop_32 : decode cc_m_crop 32 = .ok (.getfield 79, 3) := by decide +kernel
theorem d_m_crop_35 : decode cc_m_crop 35 = .ok (.if_icmp .eq 14, 3) := by decide +kernel
theorem d_m_crop_38 : decode cc_m_crop 38 = .ok (.aload_n 0, 1) := by decide +kernel
theorem d_m_crop_39 : decode cc_m_crop 39 = .ok (.getfield 70, 3) := by decide +kernel
theorem d_m_crop_42 : decode cc_m_crop 42 = .ok (.aload_n 0, 1) := by decide +kernel
theorem d_m_crop_43 : decode cc_m_crop 43 = .ok (.getfield 73, 3) := by decide +kernel
theorem d_m_crop_46 : decode cc_m_crop 46 = .ok (.if_icmp .ne 27, 3) := by decide +kernel
theorem d_m_crop_49 : decode cc_m_crop 49 = .ok (.aload_n 0, 1) := by decide +kernel
theorem d_m_crop_50 : decode cc_m_crop 50 = .ok (.invokevirtual 89, 3) := by decide +kernel
theorem d_m_crop_53 : decode cc_m_crop 53 = .ok (.aload_n 0, 1) := by decide +kernel
theorem d_m_crop_54 : decode cc_m_crop 54 = .ok (.getfield 19, 3) := by decide +kernel
theorem d_m_crop_57 : decode cc_m_crop 57 = .ok (.aload_n 0, 1) := by decide +kernel
theorem d_m_crop_58 : decode cc_m_crop 58 = .ok (.getfield 76, 3) := by decide +kernel
theorem d_m_crop_61 : decode cc_m_crop 61 = .ok (.iload_n 1, 1) := by decide +kernel
theorem d_m_crop_62 : decode cc_m_crop 62 = .ok (.iload_n 2, 1) := by decide +kernel
theorem d_m_crop_63 : decode cc_m_crop 63 = .ok (.invokestatic 85, 3) := by decide +kernel
theorem d_m_crop_66 : decode cc_m_crop 66 = .ok (.if_icmp .gt 7, 3) := by decide +kernel
theorem d_m_crop_69 : decode cc_m_crop 69 = .ok (.iconst 1, 1) := by decide +kernel
theorem d_m_crop_70 : decode cc_m_crop 70 = .ok (.goto 4, 3) := by decide +kernel
theorem d_m_crop_73 : decode cc_m_crop 73 = .ok (.iconst 0, 1) := by decide +kernel
theorem d_m_crop_74 : decode cc_m_crop 74 = .ok (.istore 4, 2) := by decide +kernel
theorem d_m_crop_76 : decode cc_m_crop 76 = .ok (.aload_n 0, 1) := by decide +kernel
theorem d_m_crop_77 : decode cc_m_crop 77 = .ok (.iload_n 3, 1) := by decide +kernel
theorem d_m_crop_78 : decode cc_m_crop 78 = .ok (.iload 4, 2) := by decide +kernel
theorem d_m_crop_80 : decode cc_m_crop 80 = .ok (.iconst 1, 1) := by decide +kernel
theorem d_m_crop_81 : decode cc_m_crop 81 = .ok (.invokevirtual 93, 3) := by decide +kernel
theorem d_m_crop_84 : decode cc_m_crop 84 = .ok (.ifCond .ne 4, 3) := by decide +kernel
theorem d_m_crop_87 : decode cc_m_crop 87 = .ok (.return_, 1) := by decide +kernel
theorem d_m_crop_88 : decode cc_m_crop 88 = .ok (.aload_n 0, 1) := by decide +kernel
theorem d_m_crop_89 : decode cc_m_crop 89 = .ok (.iload_n 1, 1) := by decide +kernel
theorem d_m_crop_90 : decode cc_m_crop 90 = .ok (.putfield 79, 3) := by decide +kernel
theorem d_m_crop_93 : decode cc_m_crop 93 = .ok (.aload_n 0, 1) := by decide +kernel
theorem d_m_crop_94 : decode cc_m_crop 94 = .ok (.iload_n 2, 1) := by decide +kernel
theorem d_m_crop_95 : decode cc_m_crop 95 = .ok (.putfield 82, 3) := by decide +kernel
theorem d_m_crop_98 : decode cc_m_crop 98 = .ok (.return_, 1) := by decide +kernel
theorem d_m_known_0 : decode cc_m_known 0 = .ok (.iload_n 1, 1) := by decide +kernel
theorem d_m_known_1 : decode cc_m_known 1 = .ok (.iconst 1, 1) := by decide +kernel
theorem d_m_known_2 : decode cc_m_known 2 = .ok (.sipush 200, 3) := by decide +kernel
theorem d_m_known_5 : decode cc_m_known 5 = .ok (.invokestatic 66, 3) := by decide +kernel
theorem d_m_known_8 : decode cc_m_known 8 = .ok (.istore_n 2, 1) := by decide +kernel
theorem d_m_known_9 : decode cc_m_known 9 = .ok (.aload_n 0, 1) := by decide +kernel
theorem d_m_known_10 : decode cc_m_known 10 = .ok (.iload_n 2, 1) := by decide +kernel
theorem d_m_known_11 : decode cc_m_known 11 = .ok (.iload_n 2, 1) := by decide +kernel
theorem d_m_known_12 : decode cc_m_known 12 = .ok (.ifCond .eq 27, 3) := by decide +kernel
theorem d_m_known_15 : decode cc_m_known 15 = .ok (.aload_n 0, 1) := by decide +kernel
theorem d_m_known_16 : decode cc_m_known 16 = .ok (.invokevirtual 89, 3) := by decide +kernel
theorem d_m_known_19 : decode cc_m_known 19 = .ok (.iload_n 1, 1) := by decide +kernel
theorem d_m_known_20 : decode cc_m_known 20 = .ok (.iconst 0, 1) := by decide +kernel
theorem d_m_known_21 : decode cc_m_known 21 = .ok (.aload_n 0, 1) := by decide +kernel
theorem d_m_known_22 : decode cc_m_known 22 = .ok (.getfield 79, 3) := by decide +kernel
theorem d_m_known_25 : decode cc_m_known 25 = .ok (.aload_n 0, 1) := by decide +kernel
theorem d_m_known_26 : decode cc_m_known 26 = .ok (.getfield 82, 3) := by decide +kernel
theorem d_m_known_29 : decode cc_m_known 29 = .ok (.invokestatic 85, 3) := by decide +kernel
theorem d_m_known_32 : decode cc_m_known 32 = .ok (.if_icmp .gt 7, 3) := by decide +kernel
theorem d_m_known_35 : decode cc_m_known 35 = .ok (.iconst 1, 1) := by decide +kernel
theorem d_m_known_36 : decode cc_m_known 36 = .ok (.goto 4, 3) := by decide +kernel
theorem d_m_known_39 : decode cc_m_known 39 = .ok (.iconst 0, 1) := by decide +kernel
theorem d_m_known_40 : decode cc_m_known 40 = .ok (.iconst 1, 1) := by decide +kernel
theorem d_m_known_41 : decode cc_m_known 41 = .ok (.invokevirtual 93, 3) := by decide +kernel
theorem d_m_known_44 : decode cc_m_known 44 = .ok (.ifCond .ne 4, 3) := by decide +kernel
theorem d_m_known_47 : decode cc_m_known 47 = .ok (.return_, 1) := by decide +kernel
theorem d_m_known_48 : decode cc_m_known 48 = .ok (.aload_n 0, 1) := by decide +kernel
theorem d_m_known_49 : decode cc_m_known 49 = .ok (.iload_n 1, 1) := by decide +kernel
theorem d_m_known_50 : decode cc_m_known 50 = .ok (.putfield 19, 3) := by decide +kernel
theorem d_m_known_53 : decode cc_m_known 53 = .ok (.aload_n 0, 1) := by decide +kernel
theorem d_m_known_54 : decode cc_m_known 54 = .ok (.iconst 0, 1) := by decide +kernel
theorem d_m_known_55 : decode cc_m_known 55 = .ok (.putfield 76, 3) := by decide +kernel
theorem d_m_known_58 : decode cc_m_known 58 = .ok (.return_, 1) := by decide +kernel
theorem d_m_isBetter_0 : decode cc_m_isBetter 0 = .ok (.iload_n 2, 1) := by decide +kernel
theorem d_m_isBetter_1 : decode cc_m_isBetter 1 = .ok (.aload_n 0, 1) := by decide +kernel
theorem d_m_isBetter_2 : decode cc_m_isBetter 2 = .ok (.getfield 45, 3) := by decide +kernel
theorem d_m_isBetter_5 : decode cc_m_isBetter 5 = .ok (.iload_n 1, 1) := by decide +kernel
theorem d_m_isBetter_6 : decode cc_m_isBetter 6 = .ok (.iaload, 1) := by decide +kernel
theorem d_m_isBetter_7 : decode cc_m_isBetter 7 = .ok (.if_icmp .eq 19, 3) := by decide +kernel
theorem d_m_isBetter_10 : decode cc_m_isBetter 10 = .ok (.iload_n 2, 1) := by decide +kernel
theorem d_m_isBetter_11 : decode cc_m_isBetter 11 = .ok (.aload_n 0, 1) := by decide +kernel
theorem d_m_isBetter_12 : decode cc_m_isBetter 12 = .ok (.getfield 45, 3) := by decide +kernel
theorem d_m_isBetter_15 : decode cc_m_isBetter 15 = .ok (.iload_n 1, 1) := by decide +kernel
theorem d_m_isBetter_16 : decode cc_m_isBetter 16 = .ok (.iaload, 1) := by decide +kernel
theorem d_m_isBetter_17 : decode cc_m_isBetter 17 = .ok (.if_icmp .ge 7, 3) := by decide +kernel
theorem d_m_isBetter_20 : decode cc_m_isBetter 20 = .ok (.iconst 1, 1) := by decide +kernel
theorem d_m_isBetter_21 : decode cc_m_isBetter 21 = .ok (.goto 4, 3) := by decide +kernel
theorem d_m_isBetter_24 : decode cc_m_isBetter 24 = .ok (.iconst 0, 1) := by decide +kernel
theorem d_m_isBetter_25 : decode cc_m_isBetter 25 = .ok (.ireturn, 1) := by decide +kernel
theorem d_m_isBetter_26 : decode cc_m_isBetter 26 = .ok (.iload_n 3, 1) := by decide +kernel
theorem d_m_isBetter_27 : decode cc_m_isBetter 27 = .ok (.aload_n 0, 1) := by decide +kernel
theorem d_m_isBetter_28 : decode cc_m_isBetter 28 = .ok (.getfield 48, 3) := by decide +kernel
theorem d_m_isBetter_31 : decode cc_m_isBetter 31 = .ok (.iload_n 1, 1) := by decide +kernel
theorem d_m_isBetter_32 : decode cc_m_isBetter 32 = .ok (.iaload, 1) := by decide +kernel
theorem d_m_isBetter_33 : decode cc_m_isBetter 33 = .ok (.if_icmp .eq 21, 3) := by decide +kernel
theorem d_m_isBetter_36 : decode cc_m_isBetter 36 = .ok (.iload_n 3, 1) := by decide +kernel
theorem d_m_isBetter_37 : decode cc_m_isBetter 37 = .ok (.aload_n 0, 1) := by decide +kernel
theorem d_m_isBetter_38 : decode cc_m_isBetter 38 = .ok (.getfield 48, 3) := by decide +kernel
theorem d_m_isBetter_41 : decode cc_m_isBetter 41 = .ok (.iload_n 1, 1) := by decide +kernel
theorem d_m_isBetter_42 : decode cc_m_isBetter 42 = .ok (.iaload, 1) := by decide +kernel
theorem d_m_isBetter_43 : decode cc_m_isBetter 43 = .ok (.if_icmp .le 7, 3) := by decide +kernel
theorem d_m_isBetter_46 : decode cc_m_isBetter 46 = .ok (.iconst 1, 1) := by decide +kernel
theorem d_m_isBetter_47 : decode cc_m_isBetter 47 = .ok (.goto 23, 3) := by decide +kernel
theorem d_m_isBetter_50 : decode cc_m_isBetter 50 = .ok (.iconst 0, 1) := by decide +kernel
theorem d_m_isBetter_51 : decode cc_m_isBetter 51 = .ok (.goto 19, 3) := by decide +kernel
theorem d_m_isBetter_54 : decode cc_m_isBetter 54 = .ok (.iload 4, 2) := by decide +kernel
theorem d_m_isBetter_56 : decode cc_m_isBetter 56 = .ok (.aload_n 0, 1) := by decide +kernel
theorem d_m_isBetter_57 : decode cc_m_isBetter 57 = .ok (.getfield 51, 3) := by decide +kernel
theorem d_m_isBetter_60 : decode cc_m_isBetter 60 = .ok (.iload_n 1, 1) := by decide +kernel
theorem d_m_isBetter_61 : decode cc_m_isBetter 61 = .ok (.iaload, 1) := by decide +kernel
theorem d_m_isBetter_62 : decode cc_m_isBetter 62 = .ok (.if_icmp .ge 7, 3) := by decide +kernel
theorem d_m_isBetter_65 : decode cc_m_isBetter 65 = .ok (.iconst 1, 1) := by decide +kernel
theorem d_m_isBetter_66 : decode cc_m_isBetter 66 = .ok (.goto 4, 3) := by decide +kernel
theorem d_m_isBetter_69 : decode cc_m_isBetter 69 = .ok (.iconst 0, 1) := by decide +kernel
theorem d_m_isBetter_70 : decode cc_m_isBetter 70 = .ok (.ireturn, 1) := by decide +kernel
theorem d_m_plan_0 : decode cc_m_plan 0 = .ok (.aload_n 0, 1) := by decide +kernel
theorem d_m_plan_1 : decode cc_m_plan 1 = .ok (.invokevirtual 97, 3) := by decide +kernel
theorem d_m_plan_4 : decode cc_m_plan 4 = .ok (.istore_n 1, 1) := by decide +kernel
theorem d_m_plan_5 : decode cc_m_plan 5 = .ok (.iconst 0, 1) := by decide +kernel
theorem d_m_plan_6 : decode cc_m_plan 6 = .ok (.istore_n 2, 1) := by decide +kernel
theorem d_m_plan_7 : decode cc_m_plan 7 = .ok (.iload_n 2, 1) := by decide +kernel
theorem d_m_plan_8 : decode cc_m_plan 8 = .ok (.iload_n 1, 1) := by decide +kernel
theorem d_m_plan_9 : decode cc_m_plan 9 = .ok (.if_icmp .gt 200, 3) := by decide +kernel
theorem d_m_plan_12 : decode cc_m_plan 12 = .ok (.aload_n 0, 1) := by decide +kernel
theorem d_m_plan_13 : decode cc_m_plan 13 = .ok (.getfield 45, 3) := by decide +kernel
theorem d_m_plan_16 : decode cc_m_plan 16 = .ok (.iload_n 2, 1) := by decide +kernel
theorem d_m_plan_17 : decode cc_m_plan 17 = .ok (.iload_n 2, 1) := by decide +kernel
theorem d_m_plan_18 : decode cc_m_plan 18 = .ok (.iastore, 1) := by decide +kernel
theorem d_m_plan_19 : decode cc_m_plan 19 = .ok (.aload_n 0, 1) := by decide +kernel
theorem d_m_plan_20 : decode cc_m_plan 20 = .ok (.getfield 48, 3) := by decide +kernel
theorem d_m_plan_23 : decode cc_m_plan 23 = .ok (.iload_n 2, 1) := by decide +kernel
theorem d_m_plan_24 : decode cc_m_plan 24 = .ok (.iconst 0, 1) := by decide +kernel
theorem d_m_plan_25 : decode cc_m_plan 25 = .ok (.iastore, 1) := by decide +kernel
theorem d_m_plan_26 : decode cc_m_plan 26 = .ok (.aload_n 0, 1) := by decide +kernel
theorem d_m_plan_27 : decode cc_m_plan 27 = .ok (.getfield 51, 3) := by decide +kernel
theorem d_m_plan_30 : decode cc_m_plan 30 = .ok (.iload_n 2, 1) := by decide +kernel
theorem d_m_plan_31 : decode cc_m_plan 31 = .ok (.iconst 0, 1) := by decide +kernel
theorem d_m_plan_32 : decode cc_m_plan 32 = .ok (.iastore, 1) := by decide +kernel
theorem d_m_plan_33 : decode cc_m_plan 33 = .ok (.aload_n 0, 1) := by decide +kernel
theorem d_m_plan_34 : decode cc_m_plan 34 = .ok (.getfield 54, 3) := by decide +kernel
theorem d_m_plan_37 : decode cc_m_plan 37 = .ok (.iload_n 2, 1) := by decide +kernel
theorem d_m_plan_38 : decode cc_m_plan 38 = .ok (.iconst (-1), 1) := by decide +kernel
theorem d_m_plan_39 : decode cc_m_plan 39 = .ok (.iastore, 1) := by decide +kernel
theorem d_m_plan_40 : decode cc_m_plan 40 = .ok (.iconst 0, 1) := by decide +kernel
theorem d_m_plan_41 : decode cc_m_plan 41 = .ok (.istore_n 3, 1) := by decide +kernel
theorem d_m_plan_42 : decode cc_m_plan 42 = .ok (.iload_n 3, 1) := by decide +kernel
theorem d_m_plan_43 : decode cc_m_plan 43 = .ok (.aload_n 0, 1) := by decide +kernel
theorem d_m_plan_44 : decode cc_m_plan 44 = .ok (.getfield 63, 3) := by decide +kernel
theorem d_m_plan_47 : decode cc_m_plan 47 = .ok (.if_icmp .ge 156, 3) := by decide +kernel
theorem d_m_plan_50 : decode cc_m_plan 50 = .ok (.aload_n 0, 1) := by decide +kernel
theorem d_m_plan_51 : decode cc_m_plan 51 = .ok (.getfield 7, 3) := by decide +kernel
theorem d_m_plan_54 : decode cc_m_plan 54 = .ok (.iload_n 3, 1) := by decide +kernel
theorem d_m_plan_55 : decode cc_m_plan 55 = .ok (.iaload, 1) := by decide +kernel
theorem d_m_plan_56 : decode cc_m_plan 56 = .ok (.istore 4, 2) := by decide +kernel
theorem d_m_plan_58 : decode cc_m_plan 58 = .ok (.iload 4, 2) := by decide +kernel
theorem d_m_plan_60 : decode cc_m_plan 60 = .ok (.aload_n 0, 1) := by decide +kernel
theorem d_m_plan_61 : decode cc_m_plan 61 = .ok (.getfield 13, 3) := by decide +kernel
theorem d_m_plan_64 : decode cc_m_plan 64 = .ok (.iload_n 3, 1) := by decide +kernel
theorem d_m_plan_65 : decode cc_m_plan 65 = .ok (.iaload, 1) := by decide +kernel
theorem d_m_plan_66 : decode cc_m_plan 66 = .ok (.if_icmp .gt 131, 3) := by decide +kernel
theorem d_m_plan_69 : decode cc_m_plan 69 = .ok (.iload 4, 2) := by decide +kernel
theorem d_m_plan_71 : decode cc_m_plan 71 = .ok (.iload_n 2, 1) := by decide +kernel
theorem d_m_plan_72 : decode cc_m_plan 72 = .ok (.if_icmp .gt 125, 3) := by decide +kernel
theorem d_m_plan_75 : decode cc_m_plan 75 = .ok (.aload_n 0, 1) := by decide +kernel
theorem d_m_plan_76 : decode cc_m_plan 76 = .ok (.iload_n 2, 1) := by decide +kernel
theorem d_m_plan_77 : decode cc_m_plan 77 = .ok (.aload_n 0, 1) := by decide +kernel
theorem d_m_plan_78 : decode cc_m_plan 78 = .ok (.getfield 45, 3) := by decide +kernel
theorem d_m_plan_81 : decode cc_m_plan 81 = .ok (.iload_n 2, 1) := by decide +kernel
theorem d_m_plan_82 : decode cc_m_plan 82 = .ok (.iload 4, 2) := by decide +kernel
theorem d_m_plan_84 : decode cc_m_plan 84 = .ok (.isub, 1) := by decide +kernel
theorem d_m_plan_85 : decode cc_m_plan 85 = .ok (.iaload, 1) := by decide +kernel
theorem d_m_plan_86 : decode cc_m_plan 86 = .ok (.aload_n 0, 1) := by decide +kernel
theorem d_m_plan_87 : decode cc_m_plan 87 = .ok (.getfield 48, 3) := by decide +kernel
theorem d_m_plan_90 : decode cc_m_plan 90 = .ok (.iload_n 2, 1) := by decide +kernel
theorem d_m_plan_91 : decode cc_m_plan 91 = .ok (.iload 4, 2) := by decide +kernel
theorem d_m_plan_93 : decode cc_m_plan 93 = .ok (.isub, 1) := by decide +kernel
theorem d_m_plan_94 : decode cc_m_plan 94 = .ok (.iaload, 1) := by decide +kernel
theorem d_m_plan_95 : decode cc_m_plan 95 = .ok (.aload_n 0, 1) := by decide +kernel
theorem d_m_plan_96 : decode cc_m_plan 96 = .ok (.getfield 16, 3) := by decide +kernel
theorem d_m_plan_99 : decode cc_m_plan 99 = .ok (.iload_n 3, 1) := by decide +kernel
theorem d_m_plan_100 : decode cc_m_plan 100 = .ok (.iaload, 1) := by decide +kernel
theorem d_m_plan_101 : decode cc_m_plan 101 = .ok (.iadd, 1) := by decide +kernel
theorem d_m_plan_102 : decode cc_m_plan 102 = .ok (.aload_n 0, 1) := by decide +kernel
theorem d_m_plan_103 : decode cc_m_plan 103 = .ok (.getfield 51, 3) := by decide +kernel
theorem d_m_plan_106 : decode cc_m_plan 106 = .ok (.iload_n 2, 1) := by decide +kernel
theorem d_m_plan_107 : decode cc_m_plan 107 = .ok (.iload 4, 2) := by decide +kernel
theorem d_m_plan_109 : decode cc_m_plan 109 = .ok (.isub, 1) := by decide +kernel
theorem d_m_plan_110 : decode cc_m_plan 110 = .ok (.iaload, 1) := by decide +kernel
theorem d_m_plan_111 : decode cc_m_plan 111 = .ok (.iconst 1, 1) := by decide +kernel
theorem d_m_plan_112 : decode cc_m_plan 112 = .ok (.iadd, 1) := by decide +kernel
theorem d_m_plan_113 : decode cc_m_plan 113 = .ok (.invokevirtual 100, 3) := by decide +kernel
theorem d_m_plan_116 : decode cc_m_plan 116 = .ok (.ifCond .ne 6, 3) := by decide +kernel
theorem d_m_plan_119 : decode cc_m_plan 119 = .ok (.goto 72, 3) := by decide +kernel
theorem d_m_plan_122 : decode cc_m_plan 122 = .ok (.aload_n 0, 1) := by decide +kernel
theorem d_m_plan_123 : decode cc_m_plan 123 = .ok (.getfield 45, 3) := by decide +kernel
theorem d_m_plan_126 : decode cc_m_plan 126 = .ok (.iload_n 2, 1) := by decide +kernel
theorem d_m_plan_127 : decode cc_m_plan 127 = .ok (.aload_n 0, 1) := by decide +kernel
theorem d_m_plan_128 : decode cc_m_plan 128 = .ok (.getfield 45, 3) := by decide +kernel
theorem d_m_plan_131 : decode cc_m_plan 131 = .ok (.iload_n 2, 1) := by decide +kernel
theorem d_m_plan_132 : decode cc_m_plan 132 = .ok (.iload 4, 2) := by decide +kernel
theorem d_m_plan_134 : decode cc_m_plan 134 = .ok (.isub, 1) := by decide +kernel
theorem d_m_plan_135 : decode cc_m_plan 135 = .ok (.iaload, 1) := by decide +kernel
theorem d_m_plan_136 : decode cc_m_plan 136 = .ok (.iastore, 1) := by decide +kernel
theorem d_m_plan_137 : decode cc_m_plan 137 = .ok (.aload_n 0, 1) := by decide +kernel
theorem d_m_plan_138 : decode cc_m_plan 138 = .ok (.getfield 48, 3) := by decide +kernel
theorem d_m_plan_141 : decode cc_m_plan 141 = .ok (.iload_n 2, 1) := by decide +kernel
theorem d_m_plan_142 : decode cc_m_plan 142 = .ok (.aload_n 0, 1) := by decide +kernel
theorem d_m_plan_143 : decode cc_m_plan 143 = .ok (.getfield 48, 3) := by decide +kernel
theorem d_m_plan_146 : decode cc_m_plan 146 = .ok (.iload_n 2, 1) := by decide +kernel
theorem d_m_plan_147 : decode cc_m_plan 147 = .ok (.iload 4, 2) := by decide +kernel
theorem d_m_plan_149 : decode cc_m_plan 149 = .ok (.isub, 1) := by decide +kernel
theorem d_m_plan_150 : decode cc_m_plan 150 = .ok (.iaload, 1) := by decide +kernel
theorem d_m_plan_151 : decode cc_m_plan 151 = .ok (.aload_n 0, 1) := by decide +kernel
theorem d_m_plan_152 : decode cc_m_plan 152 = .ok (.getfield 16, 3) := by decide +kernel
theorem d_m_plan_155 : decode cc_m_plan 155 = .ok (.iload_n 3, 1) := by decide +kernel
theorem d_m_plan_156 : decode cc_m_plan 156 = .ok (.iaload, 1) := by decide +kernel
theorem d_m_plan_157 : decode cc_m_plan 157 = .ok (.iadd, 1) := by decide +kernel
theorem d_m_plan_158 : decode cc_m_plan 158 = .ok (.iastore, 1) := by decide +kernel
theorem d_m_plan_159 : decode cc_m_plan 159 = .ok (.aload_n 0, 1) := by decide +kernel
theorem d_m_plan_160 : decode cc_m_plan 160 = .ok (.getfield 51, 3) := by decide +kernel
theorem d_m_plan_163 : decode cc_m_plan 163 = .ok (.iload_n 2, 1) := by decide +kernel
theorem d_m_plan_164 : decode cc_m_plan 164 = .ok (.aload_n 0, 1) := by decide +kernel
theorem d_m_plan_165 : decode cc_m_plan 165 = .ok (.getfield 51, 3) := by decide +kernel
theorem d_m_plan_168 : decode cc_m_plan 168 = .ok (.iload_n 2, 1) := by decide +kernel
theorem d_m_plan_169 : decode cc_m_plan 169 = .ok (.iload 4, 2) := by decide +kernel
theorem d_m_plan_171 : decode cc_m_plan 171 = .ok (.isub, 1) := by decide +kernel
theorem d_m_plan_172 : decode cc_m_plan 172 = .ok (.iaload, 1) := by decide +kernel
theorem d_m_plan_173 : decode cc_m_plan 173 = .ok (.iconst 1, 1) := by decide +kernel
theorem d_m_plan_174 : decode cc_m_plan 174 = .ok (.iadd, 1) := by decide +kernel
theorem d_m_plan_175 : decode cc_m_plan 175 = .ok (.iastore, 1) := by decide +kernel
theorem d_m_plan_176 : decode cc_m_plan 176 = .ok (.aload_n 0, 1) := by decide +kernel
theorem d_m_plan_177 : decode cc_m_plan 177 = .ok (.getfield 54, 3) := by decide +kernel
theorem d_m_plan_180 : decode cc_m_plan 180 = .ok (.iload_n 2, 1) := by decide +kernel
theorem d_m_plan_181 : decode cc_m_plan 181 = .ok (.iload_n 3, 1) := by decide +kernel
theorem d_m_plan_182 : decode cc_m_plan 182 = .ok (.iastore, 1) := by decide +kernel
theorem d_m_plan_183 : decode cc_m_plan 183 = .ok (.aload_n 0, 1) := by decide +kernel
theorem d_m_plan_184 : decode cc_m_plan 184 = .ok (.getfield 57, 3) := by decide +kernel
theorem d_m_plan_187 : decode cc_m_plan 187 = .ok (.iload_n 2, 1) := by decide +kernel
theorem d_m_plan_188 : decode cc_m_plan 188 = .ok (.iload 4, 2) := by decide +kernel
theorem d_m_plan_190 : decode cc_m_plan 190 = .ok (.iastore, 1) := by decide +kernel
theorem d_m_plan_191 : decode cc_m_plan 191 = .ok (.iinc 4 1, 3) := by decide +kernel
theorem d_m_plan_194 : decode cc_m_plan 194 = .ok (.goto (-136), 3) := by decide +kernel
theorem d_m_plan_197 : decode cc_m_plan 197 = .ok (.iinc 3 1, 3) := by decide +kernel
theorem d_m_plan_200 : decode cc_m_plan 200 = .ok (.goto (-158), 3) := by decide +kernel
theorem d_m_plan_203 : decode cc_m_plan 203 = .ok (.iinc 2 1, 3) := by decide +kernel
theorem d_m_plan_206 : decode cc_m_plan 206 = .ok (.goto (-199), 3) := by decide +kernel
theorem d_m_plan_209 : decode cc_m_plan 209 = .ok (.return_, 1) := by decide +kernel
theorem d_m_pieces_0 : decode cc_m_pieces 0 = .ok (.aload_n 0, 1) := by decide +kernel
theorem d_m_pieces_1 : decode cc_m_pieces 1 = .ok (.iconst 0, 1) := by decide +kernel
theorem d_m_pieces_2 : decode cc_m_pieces 2 = .ok (.putfield 60, 3) := by decide +kernel
theorem d_m_pieces_5 : decode cc_m_pieces 5 = .ok (.aload_n 0, 1) := by decide +kernel
theorem d_m_pieces_6 : decode cc_m_pieces 6 = .ok (.invokevirtual 104, 3) := by decide +kernel
theorem d_m_pieces_9 : decode cc_m_pieces 9 = .ok (.aload_n 0, 1) := by decide +kernel
theorem d_m_pieces_10 : decode cc_m_pieces 10 = .ok (.getfield 73, 3) := by decide +kernel
theorem d_m_pieces_13 : decode cc_m_pieces 13 = .ok (.aload_n 0, 1) := by decide +kernel
theorem d_m_pieces_14 : decode cc_m_pieces 14 = .ok (.getfield 70, 3) := by decide +kernel
theorem d_m_pieces_17 : decode cc_m_pieces 17 = .ok (.isub, 1) := by decide +kernel
theorem d_m_pieces_18 : decode cc_m_pieces 18 = .ok (.aload_n 0, 1) := by decide +kernel
theorem d_m_pieces_19 : decode cc_m_pieces 19 = .ok (.getfield 51, 3) := by decide +kernel
theorem d_m_pieces_22 : decode cc_m_pieces 22 = .ok (.aload_n 0, 1) := by decide +kernel
theorem d_m_pieces_23 : decode cc_m_pieces 23 = .ok (.invokevirtual 97, 3) := by decide +kernel
theorem d_m_pieces_26 : decode cc_m_pieces 26 = .ok (.iaload, 1) := by decide +kernel
theorem d_m_pieces_27 : decode cc_m_pieces 27 = .ok (.iadd, 1) := by decide +kernel
theorem d_m_pieces_28 : decode cc_m_pieces 28 = .ok (.ireturn, 1) := by decide +kernel
theorem d_m_finds_0 : decode cc_m_finds 0 = .ok (.iload_n 1, 1) := by decide +kernel
theorem d_m_finds_1 : decode cc_m_finds 1 = .ok (.ifCond .ge 5, 3) := by decide +kernel
theorem d_m_finds_4 : decode cc_m_finds 4 = .ok (.iconst 0, 1) := by decide +kernel
theorem d_m_finds_5 : decode cc_m_finds 5 = .ok (.ireturn, 1) := by decide +kernel
theorem d_m_finds_6 : decode cc_m_finds 6 = .ok (.aload_n 0, 1) := by decide +kernel
theorem d_m_finds_7 : decode cc_m_finds 7 = .ok (.aload_n 0, 1) := by decide +kernel
theorem d_m_finds_8 : decode cc_m_finds 8 = .ok (.getfield 79, 3) := by decide +kernel
theorem d_m_finds_11 : decode cc_m_finds 11 = .ok (.putfield 107, 3) := by decide +kernel
theorem d_m_finds_14 : decode cc_m_finds 14 = .ok (.aload_n 0, 1) := by decide +kernel
theorem d_m_finds_15 : decode cc_m_finds 15 = .ok (.getfield 70, 3) := by decide +kernel
theorem d_m_finds_18 : decode cc_m_finds 18 = .ok (.istore_n 2, 1) := by decide +kernel
theorem d_m_finds_19 : decode cc_m_finds 19 = .ok (.iload_n 2, 1) := by decide +kernel
theorem d_m_finds_20 : decode cc_m_finds 20 = .ok (.aload_n 0, 1) := by decide +kernel
theorem d_m_finds_21 : decode cc_m_finds 21 = .ok (.getfield 73, 3) := by decide +kernel
theorem d_m_finds_24 : decode cc_m_finds 24 = .ok (.if_icmp .ge 56, 3) := by decide +kernel
theorem d_m_finds_27 : decode cc_m_finds 27 = .ok (.aload_n 0, 1) := by decide +kernel
theorem d_m_finds_28 : decode cc_m_finds 28 = .ok (.aload_n 0, 1) := by decide +kernel
theorem d_m_finds_29 : decode cc_m_finds 29 = .ok (.getfield 29, 3) := by decide +kernel
theorem d_m_finds_32 : decode cc_m_finds 32 = .ok (.iload_n 2, 1) := by decide +kernel
theorem d_m_finds_33 : decode cc_m_finds 33 = .ok (.iaload, 1) := by decide +kernel
theorem d_m_finds_34 : decode cc_m_finds 34 = .ok (.putfield 110, 3) := by decide +kernel
theorem d_m_finds_37 : decode cc_m_finds 37 = .ok (.aload_n 0, 1) := by decide +kernel
theorem d_m_finds_38 : decode cc_m_finds 38 = .ok (.aload_n 0, 1) := by decide +kernel
theorem d_m_finds_39 : decode cc_m_finds 39 = .ok (.getfield 32, 3) := by decide +kernel
theorem d_m_finds_42 : decode cc_m_finds 42 = .ok (.iload_n 2, 1) := by decide +kernel
theorem d_m_finds_43 : decode cc_m_finds 43 = .ok (.iaload, 1) := by decide +kernel
theorem d_m_finds_44 : decode cc_m_finds 44 = .ok (.putfield 113, 3) := by decide +kernel
theorem d_m_finds_47 : decode cc_m_finds 47 = .ok (.iload_n 2, 1) := by decide +kernel
theorem d_m_finds_48 : decode cc_m_finds 48 = .ok (.aload_n 0, 1) := by decide +kernel
theorem d_m_finds_49 : decode cc_m_finds 49 = .ok (.getfield 70, 3) := by decide +kernel
theorem d_m_finds_52 : decode cc_m_finds 52 = .ok (.isub, 1) := by decide +kernel
theorem d_m_finds_53 : decode cc_m_finds 53 = .ok (.iload_n 1, 1) := by decide +kernel
theorem d_m_finds_54 : decode cc_m_finds 54 = .ok (.if_icmp .ne 5, 3) := by decide +kernel
theorem d_m_finds_57 : decode cc_m_finds 57 = .ok (.iconst 1, 1) := by decide +kernel
theorem d_m_finds_58 : decode cc_m_finds 58 = .ok (.ireturn, 1) := by decide +kernel
theorem d_m_finds_59 : decode cc_m_finds 59 = .ok (.aload_n 0, 1) := by decide +kernel
theorem d_m_finds_60 : decode cc_m_finds 60 = .ok (.aload_n 0, 1) := by decide +kernel
theorem d_m_finds_61 : decode cc_m_finds 61 = .ok (.getfield 107, 3) := by decide +kernel
theorem d_m_finds_64 : decode cc_m_finds 64 = .ok (.aload_n 0, 1) := by decide +kernel
theorem d_m_finds_65 : decode cc_m_finds 65 = .ok (.getfield 32, 3) := by decide +kernel
theorem d_m_finds_68 : decode cc_m_finds 68 = .ok (.iload_n 2, 1) := by decide +kernel
theorem d_m_finds_69 : decode cc_m_finds 69 = .ok (.iaload, 1) := by decide +kernel
theorem d_m_finds_70 : decode cc_m_finds 70 = .ok (.iadd, 1) := by decide +kernel
theorem d_m_finds_71 : decode cc_m_finds 71 = .ok (.putfield 107, 3) := by decide +kernel
theorem d_m_finds_74 : decode cc_m_finds 74 = .ok (.iinc 2 1, 3) := by decide +kernel
theorem d_m_finds_77 : decode cc_m_finds 77 = .ok (.goto (-58), 3) := by decide +kernel
theorem d_m_finds_80 : decode cc_m_finds 80 = .ok (.aload_n 0, 1) := by decide +kernel
theorem d_m_finds_81 : decode cc_m_finds 81 = .ok (.invokevirtual 104, 3) := by decide +kernel
theorem d_m_finds_84 : decode cc_m_finds 84 = .ok (.aload_n 0, 1) := by decide +kernel
theorem d_m_finds_85 : decode cc_m_finds 85 = .ok (.invokevirtual 97, 3) := by decide +kernel
theorem d_m_finds_88 : decode cc_m_finds 88 = .ok (.istore_n 2, 1) := by decide +kernel
theorem d_m_finds_89 : decode cc_m_finds 89 = .ok (.aload_n 0, 1) := by decide +kernel
theorem d_m_finds_90 : decode cc_m_finds 90 = .ok (.getfield 73, 3) := by decide +kernel
theorem d_m_finds_93 : decode cc_m_finds 93 = .ok (.aload_n 0, 1) := by decide +kernel
theorem d_m_finds_94 : decode cc_m_finds 94 = .ok (.getfield 70, 3) := by decide +kernel
theorem d_m_finds_97 : decode cc_m_finds 97 = .ok (.isub, 1) := by decide +kernel
theorem d_m_finds_98 : decode cc_m_finds 98 = .ok (.istore_n 3, 1) := by decide +kernel
theorem d_m_finds_99 : decode cc_m_finds 99 = .ok (.aload_n 0, 1) := by decide +kernel
theorem d_m_finds_100 : decode cc_m_finds 100 = .ok (.getfield 54, 3) := by decide +kernel
theorem d_m_finds_103 : decode cc_m_finds 103 = .ok (.iload_n 2, 1) := by decide +kernel
theorem d_m_finds_104 : decode cc_m_finds 104 = .ok (.iaload, 1) := by decide +kernel
theorem d_m_finds_105 : decode cc_m_finds 105 = .ok (.ifCond .lt 60, 3) := by decide +kernel
theorem d_m_finds_108 : decode cc_m_finds 108 = .ok (.aload_n 0, 1) := by decide +kernel
theorem d_m_finds_109 : decode cc_m_finds 109 = .ok (.aload_n 0, 1) := by decide +kernel
theorem d_m_finds_110 : decode cc_m_finds 110 = .ok (.getfield 54, 3) := by decide +kernel
theorem d_m_finds_113 : decode cc_m_finds 113 = .ok (.iload_n 2, 1) := by decide +kernel
theorem d_m_finds_114 : decode cc_m_finds 114 = .ok (.iaload, 1) := by decide +kernel
theorem d_m_finds_115 : decode cc_m_finds 115 = .ok (.putfield 110, 3) := by decide +kernel
theorem d_m_finds_118 : decode cc_m_finds 118 = .ok (.aload_n 0, 1) := by decide +kernel
theorem d_m_finds_119 : decode cc_m_finds 119 = .ok (.aload_n 0, 1) := by decide +kernel
theorem d_m_finds_120 : decode cc_m_finds 120 = .ok (.getfield 57, 3) := by decide +kernel
theorem d_m_finds_123 : decode cc_m_finds 123 = .ok (.iload_n 2, 1) := by decide +kernel
theorem d_m_finds_124 : decode cc_m_finds 124 = .ok (.iaload, 1) := by decide +kernel
theorem d_m_finds_125 : decode cc_m_finds 125 = .ok (.putfield 113, 3) := by decide +kernel
theorem d_m_finds_128 : decode cc_m_finds 128 = .ok (.iload_n 3, 1) := by decide +kernel
theorem d_m_finds_129 : decode cc_m_finds 129 = .ok (.iload_n 1, 1) := by decide +kernel
theorem d_m_finds_130 : decode cc_m_finds 130 = .ok (.if_icmp .ne 5, 3) := by decide +kernel
theorem d_m_finds_133 : decode cc_m_finds 133 = .ok (.iconst 1, 1) := by decide +kernel
theorem d_m_finds_134 : decode cc_m_finds 134 = .ok (.ireturn, 1) := by decide +kernel
theorem d_m_finds_135 : decode cc_m_finds 135 = .ok (.aload_n 0, 1) := by decide +kernel
theorem d_m_finds_136 : decode cc_m_finds 136 = .ok (.aload_n 0, 1) := by decide +kernel
theorem d_m_finds_137 : decode cc_m_finds 137 = .ok (.getfield 107, 3) := by decide +kernel
theorem d_m_finds_140 : decode cc_m_finds 140 = .ok (.aload_n 0, 1) := by decide +kernel
theorem d_m_finds_141 : decode cc_m_finds 141 = .ok (.getfield 57, 3) := by decide +kernel
theorem d_m_finds_144 : decode cc_m_finds 144 = .ok (.iload_n 2, 1) := by decide +kernel
theorem d_m_finds_145 : decode cc_m_finds 145 = .ok (.iaload, 1) := by decide +kernel
theorem d_m_finds_146 : decode cc_m_finds 146 = .ok (.iadd, 1) := by decide +kernel
theorem d_m_finds_147 : decode cc_m_finds 147 = .ok (.putfield 107, 3) := by decide +kernel
theorem d_m_finds_150 : decode cc_m_finds 150 = .ok (.iload_n 2, 1) := by decide +kernel
theorem d_m_finds_151 : decode cc_m_finds 151 = .ok (.aload_n 0, 1) := by decide +kernel
theorem d_m_finds_152 : decode cc_m_finds 152 = .ok (.getfield 57, 3) := by decide +kernel
theorem d_m_finds_155 : decode cc_m_finds 155 = .ok (.iload_n 2, 1) := by decide +kernel
theorem d_m_finds_156 : decode cc_m_finds 156 = .ok (.iaload, 1) := by decide +kernel
theorem d_m_finds_157 : decode cc_m_finds 157 = .ok (.isub, 1) := by decide +kernel
theorem d_m_finds_158 : decode cc_m_finds 158 = .ok (.istore_n 2, 1) := by decide +kernel
theorem d_m_finds_159 : decode cc_m_finds 159 = .ok (.iinc 3 1, 3) := by decide +kernel
theorem d_m_finds_162 : decode cc_m_finds 162 = .ok (.goto (-63), 3) := by decide +kernel
theorem d_m_finds_165 : decode cc_m_finds 165 = .ok (.iconst 0, 1) := by decide +kernel
theorem d_m_finds_166 : decode cc_m_finds 166 = .ok (.ireturn, 1) := by decide +kernel
theorem d_m_piece_0 : decode cc_m_piece 0 = .ok (.aload_n 0, 1) := by decide +kernel
theorem d_m_piece_1 : decode cc_m_piece 1 = .ok (.aload_n 0, 1) := by decide +kernel
theorem d_m_piece_2 : decode cc_m_piece 2 = .ok (.iload_n 1, 1) := by decide +kernel
theorem d_m_piece_3 : decode cc_m_piece 3 = .ok (.invokevirtual 116, 3) := by decide +kernel
theorem d_m_piece_6 : decode cc_m_piece 6 = .ok (.ifCond .eq 16, 3) := by decide +kernel
theorem d_m_piece_9 : decode cc_m_piece 9 = .ok (.iload_n 2, 1) := by decide +kernel
theorem d_m_piece_10 : decode cc_m_piece 10 = .ok (.iconst 0, 1) := by decide +kernel
theorem d_m_piece_11 : decode cc_m_piece 11 = .ok (.iconst 3, 1) := by decide +kernel
theorem d_m_piece_12 : decode cc_m_piece 12 = .ok (.invokestatic 66, 3) := by decide +kernel
theorem d_m_piece_15 : decode cc_m_piece 15 = .ok (.ifCond .eq 7, 3) := by decide +kernel
theorem d_m_piece_18 : decode cc_m_piece 18 = .ok (.iconst 1, 1) := by decide +kernel
theorem d_m_piece_19 : decode cc_m_piece 19 = .ok (.goto 4, 3) := by decide +kernel
theorem d_m_piece_22 : decode cc_m_piece 22 = .ok (.iconst 0, 1) := by decide +kernel
theorem d_m_piece_23 : decode cc_m_piece 23 = .ok (.iconst 1, 1) := by decide +kernel
theorem d_m_piece_24 : decode cc_m_piece 24 = .ok (.iconst 1, 1) := by decide +kernel
theorem d_m_piece_25 : decode cc_m_piece 25 = .ok (.invokevirtual 93, 3) := by decide +kernel
theorem d_m_piece_28 : decode cc_m_piece 28 = .ok (.ifCond .ne 5, 3) := by decide +kernel
theorem d_m_piece_31 : decode cc_m_piece 31 = .ok (.iconst 0, 1) := by decide +kernel
theorem d_m_piece_32 : decode cc_m_piece 32 = .ok (.ireturn, 1) := by decide +kernel
theorem d_m_piece_33 : decode cc_m_piece 33 = .ok (.iload_n 2, 1) := by decide +kernel
theorem d_m_piece_34 : decode cc_m_piece 34 = .ok (.ifCond .ne 10, 3) := by decide +kernel
theorem d_m_piece_37 : decode cc_m_piece 37 = .ok (.aload_n 0, 1) := by decide +kernel
theorem d_m_piece_38 : decode cc_m_piece 38 = .ok (.getfield 110, 3) := by decide +kernel
theorem d_m_piece_41 : decode cc_m_piece 41 = .ok (.goto 45, 3) := by decide +kernel
theorem d_m_piece_44 : decode cc_m_piece 44 = .ok (.iload_n 2, 1) := by decide +kernel
theorem d_m_piece_45 : decode cc_m_piece 45 = .ok (.iconst 1, 1) := by decide +kernel
theorem d_m_piece_46 : decode cc_m_piece 46 = .ok (.if_icmp .ne 10, 3) := by decide +kernel
theorem d_m_piece_49 : decode cc_m_piece 49 = .ok (.aload_n 0, 1) := by decide +kernel
theorem d_m_piece_50 : decode cc_m_piece 50 = .ok (.getfield 107, 3) := by decide +kernel
theorem d_m_piece_53 : decode cc_m_piece 53 = .ok (.goto 33, 3) := by decide +kernel
theorem d_m_piece_56 : decode cc_m_piece 56 = .ok (.iload_n 2, 1) := by decide +kernel
theorem d_m_piece_57 : decode cc_m_piece 57 = .ok (.iconst 2, 1) := by decide +kernel
theorem d_m_piece_58 : decode cc_m_piece 58 = .ok (.if_icmp .ne 10, 3) := by decide +kernel
theorem d_m_piece_61 : decode cc_m_piece 61 = .ok (.aload_n 0, 1) := by decide +kernel
theorem d_m_piece_62 : decode cc_m_piece 62 = .ok (.getfield 113, 3) := by decide +kernel
theorem d_m_piece_65 : decode cc_m_piece 65 = .ok (.goto 21, 3) := by decide +kernel
theorem d_m_piece_68 : decode cc_m_piece 68 = .ok (.iload_n 1, 1) := by decide +kernel
theorem d_m_piece_69 : decode cc_m_piece 69 = .ok (.aload_n 0, 1) := by decide +kernel
theorem d_m_piece_70 : decode cc_m_piece 70 = .ok (.getfield 73, 3) := by decide +kernel
theorem d_m_piece_73 : decode cc_m_piece 73 = .ok (.aload_n 0, 1) := by decide +kernel
theorem d_m_piece_74 : decode cc_m_piece 74 = .ok (.getfield 70, 3) := by decide +kernel
theorem d_m_piece_77 : decode cc_m_piece 77 = .ok (.isub, 1) := by decide +kernel
theorem d_m_piece_78 : decode cc_m_piece 78 = .ok (.if_icmp .ge 7, 3) := by decide +kernel
theorem d_m_piece_81 : decode cc_m_piece 81 = .ok (.iconst 1, 1) := by decide +kernel
theorem d_m_piece_82 : decode cc_m_piece 82 = .ok (.goto 4, 3) := by decide +kernel
theorem d_m_piece_85 : decode cc_m_piece 85 = .ok (.iconst 0, 1) := by decide +kernel
theorem d_m_piece_86 : decode cc_m_piece 86 = .ok (.ireturn, 1) := by decide +kernel
theorem d_m_loss_0 : decode cc_m_loss 0 = .ok (.aload_n 0, 1) := by decide +kernel
theorem d_m_loss_1 : decode cc_m_loss 1 = .ok (.iconst 0, 1) := by decide +kernel
theorem d_m_loss_2 : decode cc_m_loss 2 = .ok (.putfield 60, 3) := by decide +kernel
theorem d_m_loss_5 : decode cc_m_loss 5 = .ok (.aload_n 0, 1) := by decide +kernel
theorem d_m_loss_6 : decode cc_m_loss 6 = .ok (.invokevirtual 104, 3) := by decide +kernel
theorem d_m_loss_9 : decode cc_m_loss 9 = .ok (.aload_n 0, 1) := by decide +kernel
theorem d_m_loss_10 : decode cc_m_loss 10 = .ok (.getfield 45, 3) := by decide +kernel
theorem d_m_loss_13 : decode cc_m_loss 13 = .ok (.aload_n 0, 1) := by decide +kernel
theorem d_m_loss_14 : decode cc_m_loss 14 = .ok (.invokevirtual 97, 3) := by decide +kernel
theorem d_m_loss_17 : decode cc_m_loss 17 = .ok (.iaload, 1) := by decide +kernel
theorem d_m_loss_18 : decode cc_m_loss 18 = .ok (.ireturn, 1) := by decide +kernel
theorem d_m_lying_0 : decode cc_m_lying 0 = .ok (.iconst 0, 1) := by decide +kernel
theorem d_m_lying_1 : decode cc_m_lying 1 = .ok (.istore_n 2, 1) := by decide +kernel
theorem d_m_lying_2 : decode cc_m_lying 2 = .ok (.iload_n 2, 1) := by decide +kernel
theorem d_m_lying_3 : decode cc_m_lying 3 = .ok (.aload_n 0, 1) := by decide +kernel
theorem d_m_lying_4 : decode cc_m_lying 4 = .ok (.getfield 73, 3) := by decide +kernel
theorem d_m_lying_7 : decode cc_m_lying 7 = .ok (.if_icmp .ge 21, 3) := by decide +kernel
theorem d_m_lying_10 : decode cc_m_lying 10 = .ok (.aload_n 0, 1) := by decide +kernel
theorem d_m_lying_11 : decode cc_m_lying 11 = .ok (.getfield 35, 3) := by decide +kernel
theorem d_m_lying_14 : decode cc_m_lying 14 = .ok (.iload_n 2, 1) := by decide +kernel
theorem d_m_lying_15 : decode cc_m_lying 15 = .ok (.iaload, 1) := by decide +kernel
theorem d_m_lying_16 : decode cc_m_lying 16 = .ok (.iload_n 1, 1) := by decide +kernel
theorem d_m_lying_17 : decode cc_m_lying 17 = .ok (.if_icmp .ne 5, 3) := by decide +kernel
theorem d_m_lying_20 : decode cc_m_lying 20 = .ok (.iload_n 2, 1) := by decide +kernel
theorem d_m_lying_21 : decode cc_m_lying 21 = .ok (.ireturn, 1) := by decide +kernel
theorem d_m_lying_22 : decode cc_m_lying 22 = .ok (.iinc 2 1, 3) := by decide +kernel
theorem d_m_lying_25 : decode cc_m_lying 25 = .ok (.goto (-23), 3) := by decide +kernel
theorem d_m_lying_28 : decode cc_m_lying 28 = .ok (.iconst (-1), 1) := by decide +kernel
theorem d_m_lying_29 : decode cc_m_lying 29 = .ok (.ireturn, 1) := by decide +kernel
theorem d_m_cut_0 : decode cc_m_cut 0 = .ok (.aload_n 0, 1) := by decide +kernel
theorem d_m_cut_1 : decode cc_m_cut 1 = .ok (.aload_n 0, 1) := by decide +kernel
theorem d_m_cut_2 : decode cc_m_cut 2 = .ok (.getfield 73, 3) := by decide +kernel
theorem d_m_cut_5 : decode cc_m_cut 5 = .ok (.aload_n 0, 1) := by decide +kernel
theorem d_m_cut_6 : decode cc_m_cut 6 = .ok (.getfield 70, 3) := by decide +kernel
theorem d_m_cut_9 : decode cc_m_cut 9 = .ok (.isub, 1) := by decide +kernel
theorem d_m_cut_10 : decode cc_m_cut 10 = .ok (.invokevirtual 116, 3) := by decide +kernel
theorem d_m_cut_13 : decode cc_m_cut 13 = .ok (.istore_n 1, 1) := by decide +kernel
theorem d_m_cut_14 : decode cc_m_cut 14 = .ok (.aload_n 0, 1) := by decide +kernel
theorem d_m_cut_15 : decode cc_m_cut 15 = .ok (.iload_n 1, 1) := by decide +kernel
theorem d_m_cut_16 : decode cc_m_cut 16 = .ok (.aload_n 0, 1) := by decide +kernel
theorem d_m_cut_17 : decode cc_m_cut 17 = .ok (.getfield 73, 3) := by decide +kernel
theorem d_m_cut_20 : decode cc_m_cut 20 = .ok (.sipush 300, 3) := by decide +kernel
theorem d_m_cut_23 : decode cc_m_cut 23 = .ok (.if_icmp .ge 7, 3) := by decide +kernel
theorem d_m_cut_26 : decode cc_m_cut 26 = .ok (.iconst 1, 1) := by decide +kernel
theorem d_m_cut_27 : decode cc_m_cut 27 = .ok (.goto 4, 3) := by decide +kernel
theorem d_m_cut_30 : decode cc_m_cut 30 = .ok (.iconst 0, 1) := by decide +kernel
theorem d_m_cut_31 : decode cc_m_cut 31 = .ok (.iconst 1, 1) := by decide +kernel
theorem d_m_cut_32 : decode cc_m_cut 32 = .ok (.invokevirtual 93, 3) := by decide +kernel
theorem d_m_cut_35 : decode cc_m_cut 35 = .ok (.ifCond .ne 5, 3) := by decide +kernel
theorem d_m_cut_38 : decode cc_m_cut 38 = .ok (.iconst 0, 1) := by decide +kernel
theorem d_m_cut_39 : decode cc_m_cut 39 = .ok (.ireturn, 1) := by decide +kernel
theorem d_m_cut_40 : decode cc_m_cut 40 = .ok (.iconst 0, 1) := by decide +kernel
theorem d_m_cut_41 : decode cc_m_cut 41 = .ok (.istore_n 2, 1) := by decide +kernel
theorem d_m_cut_42 : decode cc_m_cut 42 = .ok (.iload_n 2, 1) := by decide +kernel
theorem d_m_cut_43 : decode cc_m_cut 43 = .ok (.aload_n 0, 1) := by decide +kernel
theorem d_m_cut_44 : decode cc_m_cut 44 = .ok (.getfield 23, 3) := by decide +kernel
theorem d_m_cut_47 : decode cc_m_cut 47 = .ok (.if_icmp .ge 17, 3) := by decide +kernel
theorem d_m_cut_50 : decode cc_m_cut 50 = .ok (.aload_n 0, 1) := by decide +kernel
theorem d_m_cut_51 : decode cc_m_cut 51 = .ok (.iload_n 2, 1) := by decide +kernel
theorem d_m_cut_52 : decode cc_m_cut 52 = .ok (.invokevirtual 120, 3) := by decide +kernel
theorem d_m_cut_55 : decode cc_m_cut 55 = .ok (.ifCond .lt 9, 3) := by decide +kernel
theorem d_m_cut_58 : decode cc_m_cut 58 = .ok (.iinc 2 1, 3) := by decide +kernel
theorem d_m_cut_61 : decode cc_m_cut 61 = .ok (.goto (-19), 3) := by decide +kernel
theorem d_m_cut_64 : decode cc_m_cut 64 = .ok (.iload_n 2, 1) := by decide +kernel
theorem d_m_cut_65 : decode cc_m_cut 65 = .ok (.aload_n 0, 1) := by decide +kernel
theorem d_m_cut_66 : decode cc_m_cut 66 = .ok (.getfield 23, 3) := by decide +kernel
theorem d_m_cut_69 : decode cc_m_cut 69 = .ok (.if_icmp .eq 14, 3) := by decide +kernel
theorem d_m_cut_72 : decode cc_m_cut 72 = .ok (.aload_n 0, 1) := by decide +kernel
theorem d_m_cut_73 : decode cc_m_cut 73 = .ok (.getfield 113, 3) := by decide +kernel
theorem d_m_cut_76 : decode cc_m_cut 76 = .ok (.aload_n 0, 1) := by decide +kernel
theorem d_m_cut_77 : decode cc_m_cut 77 = .ok (.getfield 26, 3) := by decide +kernel
theorem d_m_cut_80 : decode cc_m_cut 80 = .ok (.if_icmp .le 5, 3) := by decide +kernel
theorem d_m_cut_83 : decode cc_m_cut 83 = .ok (.iconst (-1), 1) := by decide +kernel
theorem d_m_cut_84 : decode cc_m_cut 84 = .ok (.istore_n 2, 1) := by decide +kernel
theorem d_m_cut_85 : decode cc_m_cut 85 = .ok (.aload_n 0, 1) := by decide +kernel
theorem d_m_cut_86 : decode cc_m_cut 86 = .ok (.getfield 29, 3) := by decide +kernel
theorem d_m_cut_89 : decode cc_m_cut 89 = .ok (.aload_n 0, 1) := by decide +kernel
theorem d_m_cut_90 : decode cc_m_cut 90 = .ok (.getfield 73, 3) := by decide +kernel
theorem d_m_cut_93 : decode cc_m_cut 93 = .ok (.aload_n 0, 1) := by decide +kernel
theorem d_m_cut_94 : decode cc_m_cut 94 = .ok (.getfield 110, 3) := by decide +kernel
theorem d_m_cut_97 : decode cc_m_cut 97 = .ok (.iastore, 1) := by decide +kernel
theorem d_m_cut_98 : decode cc_m_cut 98 = .ok (.aload_n 0, 1) := by decide +kernel
theorem d_m_cut_99 : decode cc_m_cut 99 = .ok (.getfield 32, 3) := by decide +kernel
theorem d_m_cut_102 : decode cc_m_cut 102 = .ok (.aload_n 0, 1) := by decide +kernel
theorem d_m_cut_103 : decode cc_m_cut 103 = .ok (.getfield 73, 3) := by decide +kernel
theorem d_m_cut_106 : decode cc_m_cut 106 = .ok (.aload_n 0, 1) := by decide +kernel
theorem d_m_cut_107 : decode cc_m_cut 107 = .ok (.getfield 113, 3) := by decide +kernel
theorem d_m_cut_110 : decode cc_m_cut 110 = .ok (.iastore, 1) := by decide +kernel
theorem d_m_cut_111 : decode cc_m_cut 111 = .ok (.aload_n 0, 1) := by decide +kernel
theorem d_m_cut_112 : decode cc_m_cut 112 = .ok (.getfield 35, 3) := by decide +kernel
theorem d_m_cut_115 : decode cc_m_cut 115 = .ok (.aload_n 0, 1) := by decide +kernel
theorem d_m_cut_116 : decode cc_m_cut 116 = .ok (.getfield 73, 3) := by decide +kernel
theorem d_m_cut_119 : decode cc_m_cut 119 = .ok (.iload_n 2, 1) := by decide +kernel
theorem d_m_cut_120 : decode cc_m_cut 120 = .ok (.iastore, 1) := by decide +kernel
theorem d_m_cut_121 : decode cc_m_cut 121 = .ok (.aload_n 0, 1) := by decide +kernel
theorem d_m_cut_122 : decode cc_m_cut 122 = .ok (.getfield 38, 3) := by decide +kernel
theorem d_m_cut_125 : decode cc_m_cut 125 = .ok (.aload_n 0, 1) := by decide +kernel
theorem d_m_cut_126 : decode cc_m_cut 126 = .ok (.getfield 73, 3) := by decide +kernel
theorem d_m_cut_129 : decode cc_m_cut 129 = .ok (.iconst (-1), 1) := by decide +kernel
theorem d_m_cut_130 : decode cc_m_cut 130 = .ok (.iastore, 1) := by decide +kernel
theorem d_m_cut_131 : decode cc_m_cut 131 = .ok (.aload_n 0, 1) := by decide +kernel
theorem d_m_cut_132 : decode cc_m_cut 132 = .ok (.getfield 41, 3) := by decide +kernel
theorem d_m_cut_135 : decode cc_m_cut 135 = .ok (.aload_n 0, 1) := by decide +kernel
theorem d_m_cut_136 : decode cc_m_cut 136 = .ok (.getfield 73, 3) := by decide +kernel
theorem d_m_cut_139 : decode cc_m_cut 139 = .ok (.iload_n 2, 1) := by decide +kernel
theorem d_m_cut_140 : decode cc_m_cut 140 = .ok (.iconst (-1), 1) := by decide +kernel
theorem d_m_cut_141 : decode cc_m_cut 141 = .ok (.if_icmp .ne 7, 3) := by decide +kernel
theorem d_m_cut_144 : decode cc_m_cut 144 = .ok (.iconst 1, 1) := by decide +kernel
theorem d_m_cut_145 : decode cc_m_cut 145 = .ok (.goto 4, 3) := by decide +kernel
theorem d_m_cut_148 : decode cc_m_cut 148 = .ok (.iconst 0, 1) := by decide +kernel
theorem d_m_cut_149 : decode cc_m_cut 149 = .ok (.bastore, 1) := by decide +kernel
theorem d_m_cut_150 : decode cc_m_cut 150 = .ok (.aload_n 0, 1) := by decide +kernel
theorem d_m_cut_151 : decode cc_m_cut 151 = .ok (.dup, 1) := by decide +kernel
theorem d_m_cut_152 : decode cc_m_cut 152 = .ok (.getfield 73, 3) := by decide +kernel
theorem d_m_cut_155 : decode cc_m_cut 155 = .ok (.iconst 1, 1) := by decide +kernel
theorem d_m_cut_156 : decode cc_m_cut 156 = .ok (.iadd, 1) := by decide +kernel
theorem d_m_cut_157 : decode cc_m_cut 157 = .ok (.putfield 73, 3) := by decide +kernel
theorem d_m_cut_160 : decode cc_m_cut 160 = .ok (.iload_n 2, 1) := by decide +kernel
theorem d_m_cut_161 : decode cc_m_cut 161 = .ok (.ireturn, 1) := by decide +kernel
theorem d_m_bed_0 : decode cc_m_bed 0 = .ok (.iconst 1, 1) := by decide +kernel
theorem d_m_bed_1 : decode cc_m_bed 1 = .ok (.istore_n 3, 1) := by decide +kernel
theorem d_m_bed_2 : decode cc_m_bed 2 = .ok (.iconst 0, 1) := by decide +kernel
theorem d_m_bed_3 : decode cc_m_bed 3 = .ok (.istore 4, 2) := by decide +kernel
theorem d_m_bed_5 : decode cc_m_bed 5 = .ok (.iload 4, 2) := by decide +kernel
theorem d_m_bed_7 : decode cc_m_bed 7 = .ok (.aload_n 0, 1) := by decide +kernel
theorem d_m_bed_8 : decode cc_m_bed 8 = .ok (.getfield 73, 3) := by decide +kernel
theorem d_m_bed_11 : decode cc_m_bed 11 = .ok (.if_icmp .ge 21, 3) := by decide +kernel
theorem d_m_bed_14 : decode cc_m_bed 14 = .ok (.aload_n 0, 1) := by decide +kernel
theorem d_m_bed_15 : decode cc_m_bed 15 = .ok (.getfield 35, 3) := by decide +kernel
theorem d_m_bed_18 : decode cc_m_bed 18 = .ok (.iload 4, 2) := by decide +kernel
theorem d_m_bed_20 : decode cc_m_bed 20 = .ok (.iaload, 1) := by decide +kernel
theorem d_m_bed_21 : decode cc_m_bed 21 = .ok (.ifCond .lt 5, 3) := by decide +kernel
theorem d_m_bed_24 : decode cc_m_bed 24 = .ok (.iconst 0, 1) := by decide +kernel
theorem d_m_bed_25 : decode cc_m_bed 25 = .ok (.istore_n 3, 1) := by decide +kernel
theorem d_m_bed_26 : decode cc_m_bed 26 = .ok (.iinc 4 1, 3) := by decide +kernel
theorem d_m_bed_29 : decode cc_m_bed 29 = .ok (.goto (-24), 3) := by decide +kernel
theorem d_m_bed_32 : decode cc_m_bed 32 = .ok (.aload_n 0, 1) := by decide +kernel
theorem d_m_bed_33 : decode cc_m_bed 33 = .ok (.iload_n 3, 1) := by decide +kernel
theorem d_m_bed_34 : decode cc_m_bed 34 = .ok (.iload_n 1, 1) := by decide +kernel
theorem d_m_bed_35 : decode cc_m_bed 35 = .ok (.iconst 1, 1) := by decide +kernel
theorem d_m_bed_36 : decode cc_m_bed 36 = .ok (.bipush 20, 2) := by decide +kernel
theorem d_m_bed_38 : decode cc_m_bed 38 = .ok (.invokestatic 66, 3) := by decide +kernel
theorem d_m_bed_41 : decode cc_m_bed 41 = .ok (.ifCond .eq 18, 3) := by decide +kernel
theorem d_m_bed_44 : decode cc_m_bed 44 = .ok (.iload_n 2, 1) := by decide +kernel
theorem d_m_bed_45 : decode cc_m_bed 45 = .ok (.iconst 1, 1) := by decide +kernel
theorem d_m_bed_46 : decode cc_m_bed 46 = .ok (.sipush 200, 3) := by decide +kernel
theorem d_m_bed_49 : decode cc_m_bed 49 = .ok (.invokestatic 66, 3) := by decide +kernel
theorem d_m_bed_52 : decode cc_m_bed 52 = .ok (.ifCond .eq 7, 3) := by decide +kernel
theorem d_m_bed_55 : decode cc_m_bed 55 = .ok (.iconst 1, 1) := by decide +kernel
theorem d_m_bed_56 : decode cc_m_bed 56 = .ok (.goto 4, 3) := by decide +kernel
theorem d_m_bed_59 : decode cc_m_bed 59 = .ok (.iconst 0, 1) := by decide +kernel
theorem d_m_bed_60 : decode cc_m_bed 60 = .ok (.iconst 1, 1) := by decide +kernel
theorem d_m_bed_61 : decode cc_m_bed 61 = .ok (.invokevirtual 93, 3) := by decide +kernel
theorem d_m_bed_64 : decode cc_m_bed 64 = .ok (.ifCond .ne 4, 3) := by decide +kernel
theorem d_m_bed_67 : decode cc_m_bed 67 = .ok (.return_, 1) := by decide +kernel
theorem d_m_bed_68 : decode cc_m_bed 68 = .ok (.aload_n 0, 1) := by decide +kernel
theorem d_m_bed_69 : decode cc_m_bed 69 = .ok (.iload_n 1, 1) := by decide +kernel
theorem d_m_bed_70 : decode cc_m_bed 70 = .ok (.putfield 23, 3) := by decide +kernel
theorem d_m_bed_73 : decode cc_m_bed 73 = .ok (.aload_n 0, 1) := by decide +kernel
theorem d_m_bed_74 : decode cc_m_bed 74 = .ok (.iload_n 2, 1) := by decide +kernel
theorem d_m_bed_75 : decode cc_m_bed 75 = .ok (.putfield 26, 3) := by decide +kernel
theorem d_m_bed_78 : decode cc_m_bed 78 = .ok (.return_, 1) := by decide +kernel
theorem d_m_at_0 : decode cc_m_at 0 = .ok (.aload_n 0, 1) := by decide +kernel
theorem d_m_at_1 : decode cc_m_at 1 = .ok (.iload_n 1, 1) := by decide +kernel
theorem d_m_at_2 : decode cc_m_at 2 = .ok (.iconst 0, 1) := by decide +kernel
theorem d_m_at_3 : decode cc_m_at 3 = .ok (.aload_n 0, 1) := by decide +kernel
theorem d_m_at_4 : decode cc_m_at 4 = .ok (.getfield 23, 3) := by decide +kernel
theorem d_m_at_7 : decode cc_m_at 7 = .ok (.iconst 1, 1) := by decide +kernel
theorem d_m_at_8 : decode cc_m_at 8 = .ok (.isub, 1) := by decide +kernel
theorem d_m_at_9 : decode cc_m_at 9 = .ok (.invokestatic 66, 3) := by decide +kernel
theorem d_m_at_12 : decode cc_m_at 12 = .ok (.iconst 1, 1) := by decide +kernel
theorem d_m_at_13 : decode cc_m_at 13 = .ok (.iconst 1, 1) := by decide +kernel
theorem d_m_at_14 : decode cc_m_at 14 = .ok (.invokevirtual 93, 3) := by decide +kernel
theorem d_m_at_17 : decode cc_m_at 17 = .ok (.ifCond .ne 5, 3) := by decide +kernel
theorem d_m_at_20 : decode cc_m_at 20 = .ok (.iconst 0, 1) := by decide +kernel
theorem d_m_at_21 : decode cc_m_at 21 = .ok (.ireturn, 1) := by decide +kernel
theorem d_m_at_22 : decode cc_m_at 22 = .ok (.aload_n 0, 1) := by decide +kernel
theorem d_m_at_23 : decode cc_m_at 23 = .ok (.iload_n 1, 1) := by decide +kernel
theorem d_m_at_24 : decode cc_m_at 24 = .ok (.invokevirtual 120, 3) := by decide +kernel
theorem d_m_at_27 : decode cc_m_at 27 = .ok (.ireturn, 1) := by decide +kernel
theorem d_m_bundle_0 : decode cc_m_bundle 0 = .ok (.iconst 0, 1) := by decide +kernel
theorem d_m_bundle_1 : decode cc_m_bundle 1 = .ok (.istore_n 3, 1) := by decide +kernel
theorem d_m_bundle_2 : decode cc_m_bundle 2 = .ok (.iconst 0, 1) := by decide +kernel
theorem d_m_bundle_3 : decode cc_m_bundle 3 = .ok (.istore 4, 2) := by decide +kernel
theorem d_m_bundle_5 : decode cc_m_bundle 5 = .ok (.iload 4, 2) := by decide +kernel
theorem d_m_bundle_7 : decode cc_m_bundle 7 = .ok (.aload_n 0, 1) := by decide +kernel
theorem d_m_bundle_8 : decode cc_m_bundle 8 = .ok (.getfield 73, 3) := by decide +kernel
theorem d_m_bundle_11 : decode cc_m_bundle 11 = .ok (.if_icmp .ge 33, 3) := by decide +kernel
theorem d_m_bundle_14 : decode cc_m_bundle 14 = .ok (.aload_n 0, 1) := by decide +kernel
theorem d_m_bundle_15 : decode cc_m_bundle 15 = .ok (.getfield 35, 3) := by decide +kernel
theorem d_m_bundle_18 : decode cc_m_bundle 18 = .ok (.iload 4, 2) := by decide +kernel
theorem d_m_bundle_20 : decode cc_m_bundle 20 = .ok (.iaload, 1) := by decide +kernel
theorem d_m_bundle_21 : decode cc_m_bundle 21 = .ok (.ifCond .lt 17, 3) := by decide +kernel
theorem d_m_bundle_24 : decode cc_m_bundle 24 = .ok (.aload_n 0, 1) := by decide +kernel
theorem d_m_bundle_25 : decode cc_m_bundle 25 = .ok (.getfield 29, 3) := by decide +kernel
theorem d_m_bundle_28 : decode cc_m_bundle 28 = .ok (.iload 4, 2) := by decide +kernel
theorem d_m_bundle_30 : decode cc_m_bundle 30 = .ok (.iaload, 1) := by decide +kernel
theorem d_m_bundle_31 : decode cc_m_bundle 31 = .ok (.iload_n 1, 1) := by decide +kernel
theorem d_m_bundle_32 : decode cc_m_bundle 32 = .ok (.if_icmp .ne 6, 3) := by decide +kernel
theorem d_m_bundle_35 : decode cc_m_bundle 35 = .ok (.iinc 3 1, 3) := by decide +kernel
theorem d_m_bundle_38 : decode cc_m_bundle 38 = .ok (.iinc 4 1, 3) := by decide +kernel
theorem d_m_bundle_41 : decode cc_m_bundle 41 = .ok (.goto (-36), 3) := by decide +kernel
theorem d_m_bundle_44 : decode cc_m_bundle 44 = .ok (.aload_n 0, 1) := by decide +kernel
theorem d_m_bundle_45 : decode cc_m_bundle 45 = .ok (.aload_n 0, 1) := by decide +kernel
theorem d_m_bundle_46 : decode cc_m_bundle 46 = .ok (.iload_n 1, 1) := by decide +kernel
theorem d_m_bundle_47 : decode cc_m_bundle 47 = .ok (.invokevirtual 124, 3) := by decide +kernel
theorem d_m_bundle_50 : decode cc_m_bundle 50 = .ok (.iload_n 2, 1) := by decide +kernel
theorem d_m_bundle_51 : decode cc_m_bundle 51 = .ok (.iconst 1, 1) := by decide +kernel
theorem d_m_bundle_52 : decode cc_m_bundle 52 = .ok (.bipush 20, 2) := by decide +kernel
theorem d_m_bundle_54 : decode cc_m_bundle 54 = .ok (.invokestatic 66, 3) := by decide +kernel
theorem d_m_bundle_57 : decode cc_m_bundle 57 = .ok (.iload_n 3, 1) := by decide +kernel
theorem d_m_bundle_58 : decode cc_m_bundle 58 = .ok (.iload_n 2, 1) := by decide +kernel
theorem d_m_bundle_59 : decode cc_m_bundle 59 = .ok (.if_icmp .lt 7, 3) := by decide +kernel
theorem d_m_bundle_62 : decode cc_m_bundle 62 = .ok (.iconst 1, 1) := by decide +kernel
theorem d_m_bundle_63 : decode cc_m_bundle 63 = .ok (.goto 4, 3) := by decide +kernel
theorem d_m_bundle_66 : decode cc_m_bundle 66 = .ok (.iconst 0, 1) := by decide +kernel
theorem d_m_bundle_67 : decode cc_m_bundle 67 = .ok (.invokevirtual 93, 3) := by decide +kernel
theorem d_m_bundle_70 : decode cc_m_bundle 70 = .ok (.ifCond .ne 5, 3) := by decide +kernel
theorem d_m_bundle_73 : decode cc_m_bundle 73 = .ok (.iconst 0, 1) := by decide +kernel
theorem d_m_bundle_74 : decode cc_m_bundle 74 = .ok (.ireturn, 1) := by decide +kernel
theorem d_m_bundle_75 : decode cc_m_bundle 75 = .ok (.iload_n 2, 1) := by decide +kernel
theorem d_m_bundle_76 : decode cc_m_bundle 76 = .ok (.istore 4, 2) := by decide +kernel
theorem d_m_bundle_78 : decode cc_m_bundle 78 = .ok (.iconst 0, 1) := by decide +kernel
theorem d_m_bundle_79 : decode cc_m_bundle 79 = .ok (.istore 5, 2) := by decide +kernel
theorem d_m_bundle_81 : decode cc_m_bundle 81 = .ok (.iload 5, 2) := by decide +kernel
theorem d_m_bundle_83 : decode cc_m_bundle 83 = .ok (.aload_n 0, 1) := by decide +kernel
theorem d_m_bundle_84 : decode cc_m_bundle 84 = .ok (.getfield 73, 3) := by decide +kernel
theorem d_m_bundle_87 : decode cc_m_bundle 87 = .ok (.if_icmp .ge 61, 3) := by decide +kernel
theorem d_m_bundle_90 : decode cc_m_bundle 90 = .ok (.iload 4, 2) := by decide +kernel
theorem d_m_bundle_92 : decode cc_m_bundle 92 = .ok (.ifCond .le 56, 3) := by decide +kernel
theorem d_m_bundle_95 : decode cc_m_bundle 95 = .ok (.aload_n 0, 1) := by decide +kernel
theorem d_m_bundle_96 : decode cc_m_bundle 96 = .ok (.getfield 35, 3) := by decide +kernel
theorem d_m_bundle_99 : decode cc_m_bundle 99 = .ok (.iload 5, 2) := by decide +kernel
theorem d_m_bundle_101 : decode cc_m_bundle 101 = .ok (.iaload, 1) := by decide +kernel
theorem d_m_bundle_102 : decode cc_m_bundle 102 = .ok (.ifCond .lt 40, 3) := by decide +kernel
theorem d_m_bundle_105 : decode cc_m_bundle 105 = .ok (.aload_n 0, 1) := by decide +kernel
theorem d_m_bundle_106 : decode cc_m_bundle 106 = .ok (.getfield 29, 3) := by decide +kernel
theorem d_m_bundle_109 : decode cc_m_bundle 109 = .ok (.iload 5, 2) := by decide +kernel
theorem d_m_bundle_111 : decode cc_m_bundle 111 = .ok (.iaload, 1) := by decide +kernel
theorem d_m_bundle_112 : decode cc_m_bundle 112 = .ok (.iload_n 1, 1) := by decide +kernel
theorem d_m_bundle_113 : decode cc_m_bundle 113 = .ok (.if_icmp .eq 6, 3) := by decide +kernel
theorem d_m_bundle_116 : decode cc_m_bundle 116 = .ok (.goto 26, 3) := by decide +kernel
theorem d_m_bundle_119 : decode cc_m_bundle 119 = .ok (.aload_n 0, 1) := by decide +kernel
theorem d_m_bundle_120 : decode cc_m_bundle 120 = .ok (.getfield 35, 3) := by decide +kernel
theorem d_m_bundle_123 : decode cc_m_bundle 123 = .ok (.iload 5, 2) := by decide +kernel
theorem d_m_bundle_125 : decode cc_m_bundle 125 = .ok (.bipush (-2), 2) := by decide +kernel
theorem d_m_bundle_127 : decode cc_m_bundle 127 = .ok (.iastore, 1) := by decide +kernel
theorem d_m_bundle_128 : decode cc_m_bundle 128 = .ok (.aload_n 0, 1) := by decide +kernel
theorem d_m_bundle_129 : decode cc_m_bundle 129 = .ok (.getfield 38, 3) := by decide +kernel
theorem d_m_bundle_132 : decode cc_m_bundle 132 = .ok (.iload 5, 2) := by decide +kernel
theorem d_m_bundle_134 : decode cc_m_bundle 134 = .ok (.aload_n 0, 1) := by decide +kernel
theorem d_m_bundle_135 : decode cc_m_bundle 135 = .ok (.getfield 127, 3) := by decide +kernel
theorem d_m_bundle_138 : decode cc_m_bundle 138 = .ok (.iastore, 1) := by decide +kernel
theorem d_m_bundle_139 : decode cc_m_bundle 139 = .ok (.iinc 4 (-1), 3) := by decide +kernel
theorem d_m_bundle_142 : decode cc_m_bundle 142 = .ok (.iinc 5 1, 3) := by decide +kernel
theorem d_m_bundle_145 : decode cc_m_bundle 145 = .ok (.goto (-64), 3) := by decide +kernel
theorem d_m_bundle_148 : decode cc_m_bundle 148 = .ok (.aload_n 0, 1) := by decide +kernel
theorem d_m_bundle_149 : decode cc_m_bundle 149 = .ok (.dup, 1) := by decide +kernel
theorem d_m_bundle_150 : decode cc_m_bundle 150 = .ok (.getfield 127, 3) := by decide +kernel
theorem d_m_bundle_153 : decode cc_m_bundle 153 = .ok (.iconst 1, 1) := by decide +kernel
theorem d_m_bundle_154 : decode cc_m_bundle 154 = .ok (.iadd, 1) := by decide +kernel
theorem d_m_bundle_155 : decode cc_m_bundle 155 = .ok (.putfield 127, 3) := by decide +kernel
theorem d_m_bundle_158 : decode cc_m_bundle 158 = .ok (.aload_n 0, 1) := by decide +kernel
theorem d_m_bundle_159 : decode cc_m_bundle 159 = .ok (.getfield 127, 3) := by decide +kernel
theorem d_m_bundle_162 : decode cc_m_bundle 162 = .ok (.ireturn, 1) := by decide +kernel
theorem d_m_cutAt_0 : decode cc_m_cutAt 0 = .ok (.aload_n 0, 1) := by decide +kernel
theorem d_m_cutAt_1 : decode cc_m_cutAt 1 = .ok (.iload_n 1, 1) := by decide +kernel
theorem d_m_cutAt_2 : decode cc_m_cutAt 2 = .ok (.iconst 0, 1) := by decide +kernel
theorem d_m_cutAt_3 : decode cc_m_cutAt 3 = .ok (.aload_n 0, 1) := by decide +kernel
theorem d_m_cutAt_4 : decode cc_m_cutAt 4 = .ok (.getfield 73, 3) := by decide +kernel
theorem d_m_cutAt_7 : decode cc_m_cutAt 7 = .ok (.iconst 1, 1) := by decide +kernel
theorem d_m_cutAt_8 : decode cc_m_cutAt 8 = .ok (.isub, 1) := by decide +kernel
theorem d_m_cutAt_9 : decode cc_m_cutAt 9 = .ok (.invokestatic 66, 3) := by decide +kernel
theorem d_m_cutAt_12 : decode cc_m_cutAt 12 = .ok (.ifCond .eq 16, 3) := by decide +kernel
theorem d_m_cutAt_15 : decode cc_m_cutAt 15 = .ok (.iload_n 2, 1) := by decide +kernel
theorem d_m_cutAt_16 : decode cc_m_cutAt 16 = .ok (.iconst 0, 1) := by decide +kernel
theorem d_m_cutAt_17 : decode cc_m_cutAt 17 = .ok (.iconst 3, 1) := by decide +kernel
theorem d_m_cutAt_18 : decode cc_m_cutAt 18 = .ok (.invokestatic 66, 3) := by decide +kernel
theorem d_m_cutAt_21 : decode cc_m_cutAt 21 = .ok (.ifCond .eq 7, 3) := by decide +kernel
theorem d_m_cutAt_24 : decode cc_m_cutAt 24 = .ok (.iconst 1, 1) := by decide +kernel
theorem d_m_cutAt_25 : decode cc_m_cutAt 25 = .ok (.goto 4, 3) := by decide +kernel
theorem d_m_cutAt_28 : decode cc_m_cutAt 28 = .ok (.iconst 0, 1) := by decide +kernel
theorem d_m_cutAt_29 : decode cc_m_cutAt 29 = .ok (.iconst 1, 1) := by decide +kernel
theorem d_m_cutAt_30 : decode cc_m_cutAt 30 = .ok (.iconst 1, 1) := by decide +kernel
theorem d_m_cutAt_31 : decode cc_m_cutAt 31 = .ok (.invokevirtual 93, 3) := by decide +kernel
theorem d_m_cutAt_34 : decode cc_m_cutAt 34 = .ok (.ifCond .ne 5, 3) := by decide +kernel
theorem d_m_cutAt_37 : decode cc_m_cutAt 37 = .ok (.iconst 0, 1) := by decide +kernel
theorem d_m_cutAt_38 : decode cc_m_cutAt 38 = .ok (.ireturn, 1) := by decide +kernel
theorem d_m_cutAt_39 : decode cc_m_cutAt 39 = .ok (.iload_n 2, 1) := by decide +kernel
theorem d_m_cutAt_40 : decode cc_m_cutAt 40 = .ok (.ifCond .ne 12, 3) := by decide +kernel
theorem d_m_cutAt_43 : decode cc_m_cutAt 43 = .ok (.aload_n 0, 1) := by decide +kernel
theorem d_m_cutAt_44 : decode cc_m_cutAt 44 = .ok (.getfield 29, 3) := by decide +kernel
theorem d_m_cutAt_47 : decode cc_m_cutAt 47 = .ok (.iload_n 1, 1) := by decide +kernel
theorem d_m_cutAt_48 : decode cc_m_cutAt 48 = .ok (.iaload, 1) := by decide +kernel
theorem d_m_cutAt_49 : decode cc_m_cutAt 49 = .ok (.goto 37, 3) := by decide +kernel
theorem d_m_cutAt_52 : decode cc_m_cutAt 52 = .ok (.iload_n 2, 1) := by decide +kernel
theorem d_m_cutAt_53 : decode cc_m_cutAt 53 = .ok (.iconst 1, 1) := by decide +kernel
theorem d_m_cutAt_54 : decode cc_m_cutAt 54 = .ok (.if_icmp .ne 12, 3) := by decide +kernel
theorem d_m_cutAt_57 : decode cc_m_cutAt 57 = .ok (.aload_n 0, 1) := by decide +kernel
theorem d_m_cutAt_58 : decode cc_m_cutAt 58 = .ok (.getfield 32, 3) := by decide +kernel
theorem d_m_cutAt_61 : decode cc_m_cutAt 61 = .ok (.iload_n 1, 1) := by decide +kernel
theorem d_m_cutAt_62 : decode cc_m_cutAt 62 = .ok (.iaload, 1) := by decide +kernel
theorem d_m_cutAt_63 : decode cc_m_cutAt 63 = .ok (.goto 23, 3) := by decide +kernel
theorem d_m_cutAt_66 : decode cc_m_cutAt 66 = .ok (.iload_n 2, 1) := by decide +kernel
theorem d_m_cutAt_67 : decode cc_m_cutAt 67 = .ok (.iconst 2, 1) := by decide +kernel
theorem d_m_cutAt_68 : decode cc_m_cutAt 68 = .ok (.if_icmp .ne 12, 3) := by decide +kernel
theorem d_m_cutAt_71 : decode cc_m_cutAt 71 = .ok (.aload_n 0, 1) := by decide +kernel
theorem d_m_cutAt_72 : decode cc_m_cutAt 72 = .ok (.getfield 35, 3) := by decide +kernel
theorem d_m_cutAt_75 : decode cc_m_cutAt 75 = .ok (.iload_n 1, 1) := by decide +kernel
theorem d_m_cutAt_76 : decode cc_m_cutAt 76 = .ok (.iaload, 1) := by decide +kernel
theorem d_m_cutAt_77 : decode cc_m_cutAt 77 = .ok (.goto 9, 3) := by decide +kernel
theorem d_m_cutAt_80 : decode cc_m_cutAt 80 = .ok (.aload_n 0, 1) := by decide +kernel
theorem d_m_cutAt_81 : decode cc_m_cutAt 81 = .ok (.getfield 38, 3) := by decide +kernel
theorem d_m_cutAt_84 : decode cc_m_cutAt 84 = .ok (.iload_n 1, 1) := by decide +kernel
theorem d_m_cutAt_85 : decode cc_m_cutAt 85 = .ok (.iaload, 1) := by decide +kernel
theorem d_m_cutAt_86 : decode cc_m_cutAt 86 = .ok (.ireturn, 1) := by decide +kernel
theorem d_m_blade_0 : decode cc_m_blade 0 = .ok (.aload_n 0, 1) := by decide +kernel
theorem d_m_blade_1 : decode cc_m_blade 1 = .ok (.aload_n 0, 1) := by decide +kernel
theorem d_m_blade_2 : decode cc_m_blade 2 = .ok (.iload_n 1, 1) := by decide +kernel
theorem d_m_blade_3 : decode cc_m_blade 3 = .ok (.invokevirtual 116, 3) := by decide +kernel
theorem d_m_blade_6 : decode cc_m_blade 6 = .ok (.ifCond .eq 16, 3) := by decide +kernel
theorem d_m_blade_9 : decode cc_m_blade 9 = .ok (.iload_n 3, 1) := by decide +kernel
theorem d_m_blade_10 : decode cc_m_blade 10 = .ok (.iconst 0, 1) := by decide +kernel
theorem d_m_blade_11 : decode cc_m_blade 11 = .ok (.iconst 1, 1) := by decide +kernel
theorem d_m_blade_12 : decode cc_m_blade 12 = .ok (.invokestatic 66, 3) := by decide +kernel
theorem d_m_blade_15 : decode cc_m_blade 15 = .ok (.ifCond .eq 7, 3) := by decide +kernel
theorem d_m_blade_18 : decode cc_m_blade 18 = .ok (.iconst 1, 1) := by decide +kernel
theorem d_m_blade_19 : decode cc_m_blade 19 = .ok (.goto 4, 3) := by decide +kernel
theorem d_m_blade_22 : decode cc_m_blade 22 = .ok (.iconst 0, 1) := by decide +kernel
theorem d_m_blade_23 : decode cc_m_blade 23 = .ok (.iload_n 2, 1) := by decide +kernel
theorem d_m_blade_24 : decode cc_m_blade 24 = .ok (.iconst 1, 1) := by decide +kernel
theorem d_m_blade_25 : decode cc_m_blade 25 = .ok (.sipush 1000, 3) := by decide +kernel
theorem d_m_blade_28 : decode cc_m_blade 28 = .ok (.invokestatic 66, 3) := by decide +kernel
theorem d_m_blade_31 : decode cc_m_blade 31 = .ok (.iconst 1, 1) := by decide +kernel
theorem d_m_blade_32 : decode cc_m_blade 32 = .ok (.invokevirtual 93, 3) := by decide +kernel
theorem d_m_blade_35 : decode cc_m_blade 35 = .ok (.ifCond .ne 5, 3) := by decide +kernel
theorem d_m_blade_38 : decode cc_m_blade 38 = .ok (.iconst 0, 1) := by decide +kernel
theorem d_m_blade_39 : decode cc_m_blade 39 = .ok (.ireturn, 1) := by decide +kernel
theorem d_m_blade_40 : decode cc_m_blade 40 = .ok (.aload_n 0, 1) := by decide +kernel
theorem d_m_blade_41 : decode cc_m_blade 41 = .ok (.getfield 107, 3) := by decide +kernel
theorem d_m_blade_44 : decode cc_m_blade 44 = .ok (.aload_n 0, 1) := by decide +kernel
theorem d_m_blade_45 : decode cc_m_blade 45 = .ok (.getfield 113, 3) := by decide +kernel
theorem d_m_blade_48 : decode cc_m_blade 48 = .ok (.iadd, 1) := by decide +kernel
theorem d_m_blade_49 : decode cc_m_blade 49 = .ok (.istore 4, 2) := by decide +kernel
theorem d_m_blade_51 : decode cc_m_blade 51 = .ok (.sipush 2000, 3) := by decide +kernel
theorem d_m_blade_54 : decode cc_m_blade 54 = .ok (.iload 4, 2) := by decide +kernel
theorem d_m_blade_56 : decode cc_m_blade 56 = .ok (.imul, 1) := by decide +kernel
theorem d_m_blade_57 : decode cc_m_blade 57 = .ok (.iload_n 2, 1) := by decide +kernel
theorem d_m_blade_58 : decode cc_m_blade 58 = .ok (.iadd, 1) := by decide +kernel
theorem d_m_blade_59 : decode cc_m_blade 59 = .ok (.iconst 2, 1) := by decide +kernel
theorem d_m_blade_60 : decode cc_m_blade 60 = .ok (.iload_n 2, 1) := by decide +kernel
theorem d_m_blade_61 : decode cc_m_blade 61 = .ok (.imul, 1) := by decide +kernel
theorem d_m_blade_62 : decode cc_m_blade 62 = .ok (.idiv, 1) := by decide +kernel
theorem d_m_blade_63 : decode cc_m_blade 63 = .ok (.istore 5, 2) := by decide +kernel
theorem d_m_blade_65 : decode cc_m_blade 65 = .ok (.iload_n 3, 1) := by decide +kernel
theorem d_m_blade_66 : decode cc_m_blade 66 = .ok (.ifCond .ne 12, 3) := by decide +kernel
theorem d_m_blade_69 : decode cc_m_blade 69 = .ok (.iload 5, 2) := by decide +kernel
theorem d_m_blade_71 : decode cc_m_blade 71 = .ok (.sipush 1000, 3) := by decide +kernel
theorem d_m_blade_74 : decode cc_m_blade 74 = .ok (.idiv, 1) := by decide +kernel
theorem d_m_blade_75 : decode cc_m_blade 75 = .ok (.goto 9, 3) := by decide +kernel
theorem d_m_blade_78 : decode cc_m_blade 78 = .ok (.iload 5, 2) := by decide +kernel
theorem d_m_blade_80 : decode cc_m_blade 80 = .ok (.sipush 1000, 3) := by decide +kernel
theorem d_m_blade_83 : decode cc_m_blade 83 = .ok (.irem, 1) := by decide +kernel
theorem d_m_blade_84 : decode cc_m_blade 84 = .ok (.ireturn, 1) := by decide +kernel
theorem d_m_sum_0 : decode cc_m_sum 0 = .ok (.aload_n 0, 1) := by decide +kernel
theorem d_m_sum_1 : decode cc_m_sum 1 = .ok (.aload_n 0, 1) := by decide +kernel
theorem d_m_sum_2 : decode cc_m_sum 2 = .ok (.iload_n 1, 1) := by decide +kernel
theorem d_m_sum_3 : decode cc_m_sum 3 = .ok (.invokevirtual 124, 3) := by decide +kernel
theorem d_m_sum_6 : decode cc_m_sum 6 = .ok (.iconst 1, 1) := by decide +kernel
theorem d_m_sum_7 : decode cc_m_sum 7 = .ok (.iconst 1, 1) := by decide +kernel
theorem d_m_sum_8 : decode cc_m_sum 8 = .ok (.invokevirtual 93, 3) := by decide +kernel
theorem d_m_sum_11 : decode cc_m_sum 11 = .ok (.ifCond .ne 5, 3) := by decide +kernel
theorem d_m_sum_14 : decode cc_m_sum 14 = .ok (.iconst 0, 1) := by decide +kernel
theorem d_m_sum_15 : decode cc_m_sum 15 = .ok (.ireturn, 1) := by decide +kernel
theorem d_m_sum_16 : decode cc_m_sum 16 = .ok (.iconst 0, 1) := by decide +kernel
theorem d_m_sum_17 : decode cc_m_sum 17 = .ok (.istore_n 2, 1) := by decide +kernel
theorem d_m_sum_18 : decode cc_m_sum 18 = .ok (.iconst 0, 1) := by decide +kernel
theorem d_m_sum_19 : decode cc_m_sum 19 = .ok (.istore_n 3, 1) := by decide +kernel
theorem d_m_sum_20 : decode cc_m_sum 20 = .ok (.iload_n 3, 1) := by decide +kernel
theorem d_m_sum_21 : decode cc_m_sum 21 = .ok (.aload_n 0, 1) := by decide +kernel
theorem d_m_sum_22 : decode cc_m_sum 22 = .ok (.getfield 73, 3) := by decide +kernel
theorem d_m_sum_25 : decode cc_m_sum 25 = .ok (.if_icmp .ge 28, 3) := by decide +kernel
theorem d_m_sum_28 : decode cc_m_sum 28 = .ok (.aload_n 0, 1) := by decide +kernel
theorem d_m_sum_29 : decode cc_m_sum 29 = .ok (.getfield 29, 3) := by decide +kernel
theorem d_m_sum_32 : decode cc_m_sum 32 = .ok (.iload_n 3, 1) := by decide +kernel
theorem d_m_sum_33 : decode cc_m_sum 33 = .ok (.iaload, 1) := by decide +kernel
theorem d_m_sum_34 : decode cc_m_sum 34 = .ok (.iload_n 1, 1) := by decide +kernel
theorem d_m_sum_35 : decode cc_m_sum 35 = .ok (.if_icmp .ne 12, 3) := by decide +kernel
theorem d_m_sum_38 : decode cc_m_sum 38 = .ok (.iload_n 2, 1) := by decide +kernel
theorem d_m_sum_39 : decode cc_m_sum 39 = .ok (.aload_n 0, 1) := by decide +kernel
theorem d_m_sum_40 : decode cc_m_sum 40 = .ok (.getfield 32, 3) := by decide +kernel
theorem d_m_sum_43 : decode cc_m_sum 43 = .ok (.iload_n 3, 1) := by decide +kernel
theorem d_m_sum_44 : decode cc_m_sum 44 = .ok (.iaload, 1) := by decide +kernel
theorem d_m_sum_45 : decode cc_m_sum 45 = .ok (.iadd, 1) := by decide +kernel
theorem d_m_sum_46 : decode cc_m_sum 46 = .ok (.istore_n 2, 1) := by decide +kernel
theorem d_m_sum_47 : decode cc_m_sum 47 = .ok (.iinc 3 1, 3) := by decide +kernel
theorem d_m_sum_50 : decode cc_m_sum 50 = .ok (.goto (-30), 3) := by decide +kernel
theorem d_m_sum_53 : decode cc_m_sum 53 = .ok (.iload_n 2, 1) := by decide +kernel
theorem d_m_sum_54 : decode cc_m_sum 54 = .ok (.ireturn, 1) := by decide +kernel
theorem d_m_side_0 : decode cc_m_side 0 = .ok (.aload_n 0, 1) := by decide +kernel
theorem d_m_side_1 : decode cc_m_side 1 = .ok (.iload_n 1, 1) := by decide +kernel
theorem d_m_side_2 : decode cc_m_side 2 = .ok (.ifCond .lt 7, 3) := by decide +kernel
theorem d_m_side_5 : decode cc_m_side 5 = .ok (.iconst 1, 1) := by decide +kernel
theorem d_m_side_6 : decode cc_m_side 6 = .ok (.goto 4, 3) := by decide +kernel
theorem d_m_side_9 : decode cc_m_side 9 = .ok (.iconst 0, 1) := by decide +kernel
theorem d_m_side_10 : decode cc_m_side 10 = .ok (.iconst 1, 1) := by decide +kernel
theorem d_m_side_11 : decode cc_m_side 11 = .ok (.iconst 1, 1) := by decide +kernel
theorem d_m_side_12 : decode cc_m_side 12 = .ok (.invokevirtual 93, 3) := by decide +kernel
theorem d_m_side_15 : decode cc_m_side 15 = .ok (.ifCond .ne 5, 3) := by decide +kernel
theorem d_m_side_18 : decode cc_m_side 18 = .ok (.iconst 0, 1) := by decide +kernel
theorem d_m_side_19 : decode cc_m_side 19 = .ok (.ireturn, 1) := by decide +kernel
theorem d_m_side_20 : decode cc_m_side 20 = .ok (.iload_n 1, 1) := by decide +kernel
theorem d_m_side_21 : decode cc_m_side 21 = .ok (.istore_n 2, 1) := by decide +kernel
theorem d_m_side_22 : decode cc_m_side 22 = .ok (.iconst 0, 1) := by decide +kernel
theorem d_m_side_23 : decode cc_m_side 23 = .ok (.istore_n 3, 1) := by decide +kernel
theorem d_m_side_24 : decode cc_m_side 24 = .ok (.iload_n 3, 1) := by decide +kernel
theorem d_m_side_25 : decode cc_m_side 25 = .ok (.aload_n 0, 1) := by decide +kernel
theorem d_m_side_26 : decode cc_m_side 26 = .ok (.getfield 73, 3) := by decide +kernel
theorem d_m_side_29 : decode cc_m_side 29 = .ok (.if_icmp .ge 30, 3) := by decide +kernel
theorem d_m_side_32 : decode cc_m_side 32 = .ok (.aload_n 0, 1) := by decide +kernel
theorem d_m_side_33 : decode cc_m_side 33 = .ok (.getfield 41, 3) := by decide +kernel
theorem d_m_side_36 : decode cc_m_side 36 = .ok (.iload_n 3, 1) := by decide +kernel
theorem d_m_side_37 : decode cc_m_side 37 = .ok (.baload, 1) := by decide +kernel
theorem d_m_side_38 : decode cc_m_side 38 = .ok (.ifCond .ne 6, 3) := by decide +kernel
theorem d_m_side_41 : decode cc_m_side 41 = .ok (.goto 12, 3) := by decide +kernel
theorem d_m_side_44 : decode cc_m_side 44 = .ok (.iload_n 2, 1) := by decide +kernel
theorem d_m_side_45 : decode cc_m_side 45 = .ok (.ifCond .ne 5, 3) := by decide +kernel
theorem d_m_side_48 : decode cc_m_side 48 = .ok (.iload_n 3, 1) := by decide +kernel
theorem d_m_side_49 : decode cc_m_side 49 = .ok (.ireturn, 1) := by decide +kernel
theorem d_m_side_50 : decode cc_m_side 50 = .ok (.iinc 2 (-1), 3) := by decide +kernel
theorem d_m_side_53 : decode cc_m_side 53 = .ok (.iinc 3 1, 3) := by decide +kernel
theorem d_m_side_56 : decode cc_m_side 56 = .ok (.goto (-32), 3) := by decide +kernel
theorem d_m_side_59 : decode cc_m_side 59 = .ok (.iconst (-1), 1) := by decide +kernel
theorem d_m_side_60 : decode cc_m_side 60 = .ok (.ireturn, 1) := by decide +kernel
