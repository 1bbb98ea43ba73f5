/-! by program: decode rows of the class -/
theorem d_t_init_0 : decode cc_t_init 0 = .ok (.aload_n 0, 1) := by decide +kernel
theorem d_t_init_1 : decode cc_t_init 1 = .ok (.invokespecial 3, 3) := by decide +kernel
theorem d_t_init_4 : decode cc_t_init 4 = .ok (.aload_n 0, 1) := by decide +kernel
theorem d_t_init_5 : decode cc_t_init 5 = .ok (.bipush 6, 2) := by decide +kernel
theorem d_t_init_7 : decode cc_t_init 7 = .ok (.newarray .int, 2) := by decide +kernel
theorem d_t_init_9 : decode cc_t_init 9 = .ok (.putfield 9, 3) := by decide +kernel
theorem d_t_init_12 : decode cc_t_init 12 = .ok (.aload_n 0, 1) := by decide +kernel
theorem d_t_init_13 : decode cc_t_init 13 = .ok (.bipush 6, 2) := by decide +kernel
theorem d_t_init_15 : decode cc_t_init 15 = .ok (.newarray .int, 2) := by decide +kernel
theorem d_t_init_17 : decode cc_t_init 17 = .ok (.putfield 15, 3) := by decide +kernel
theorem d_t_init_20 : decode cc_t_init 20 = .ok (.aload_n 0, 1) := by decide +kernel
theorem d_t_init_21 : decode cc_t_init 21 = .ok (.bipush 6, 2) := by decide +kernel
theorem d_t_init_23 : decode cc_t_init 23 = .ok (.newarray .int, 2) := by decide +kernel
theorem d_t_init_25 : decode cc_t_init 25 = .ok (.putfield 18, 3) := by decide +kernel
theorem d_t_init_28 : decode cc_t_init 28 = .ok (.aload_n 0, 1) := by decide +kernel
theorem d_t_init_29 : decode cc_t_init 29 = .ok (.sipush 201, 3) := by decide +kernel
theorem d_t_init_32 : decode cc_t_init 32 = .ok (.newarray .int, 2) := by decide +kernel
theorem d_t_init_34 : decode cc_t_init 34 = .ok (.putfield 21, 3) := by decide +kernel
theorem d_t_init_37 : decode cc_t_init 37 = .ok (.aload_n 0, 1) := by decide +kernel
theorem d_t_init_38 : decode cc_t_init 38 = .ok (.sipush 201, 3) := by decide +kernel
theorem d_t_init_41 : decode cc_t_init 41 = .ok (.newarray .int, 2) := by decide +kernel
theorem d_t_init_43 : decode cc_t_init 43 = .ok (.putfield 24, 3) := by decide +kernel
theorem d_t_init_46 : decode cc_t_init 46 = .ok (.aload_n 0, 1) := by decide +kernel
theorem d_t_init_47 : decode cc_t_init 47 = .ok (.sipush 201, 3) := by decide +kernel
theorem d_t_init_50 : decode cc_t_init 50 = .ok (.newarray .int, 2) := by decide +kernel
theorem d_t_init_52 : decode cc_t_init 52 = .ok (.putfield 27, 3) := by decide +kernel
theorem d_t_init_55 : decode cc_t_init 55 = .ok (.aload_n 0, 1) := by decide +kernel
theorem d_t_init_56 : decode cc_t_init 56 = .ok (.iconst 0, 1) := by decide +kernel
theorem d_t_init_57 : decode cc_t_init 57 = .ok (.putfield 30, 3) := by decide +kernel
theorem d_t_init_60 : decode cc_t_init 60 = .ok (.return_, 1) := by decide +kernel
theorem d_t_add_0 : decode cc_t_add 0 = .ok (.aload_n 0, 1) := by decide +kernel
theorem d_t_add_1 : decode cc_t_add 1 = .ok (.getfield 30, 3) := by decide +kernel
theorem d_t_add_4 : decode cc_t_add 4 = .ok (.bipush 6, 2) := by decide +kernel
theorem d_t_add_6 : decode cc_t_add 6 = .ok (.if_icmp .lt 13, 3) := by decide +kernel
theorem d_t_add_9 : decode cc_t_add 9 = .ok (.new 34, 3) := by decide +kernel
theorem d_t_add_12 : decode cc_t_add 12 = .ok (.dup, 1) := by decide +kernel
theorem d_t_add_13 : decode cc_t_add 13 = .ok (.ldc 36, 2) := by decide +kernel
theorem d_t_add_15 : decode cc_t_add 15 = .ok (.invokespecial 38, 3) := by decide +kernel
theorem d_t_add_18 : decode cc_t_add 18 = .ok (.athrow, 1) := by decide +kernel
theorem d_t_add_19 : decode cc_t_add 19 = .ok (.aload_n 0, 1) := by decide +kernel
theorem d_t_add_20 : decode cc_t_add 20 = .ok (.getfield 9, 3) := by decide +kernel
theorem d_t_add_23 : decode cc_t_add 23 = .ok (.aload_n 0, 1) := by decide +kernel
theorem d_t_add_24 : decode cc_t_add 24 = .ok (.getfield 30, 3) := by decide +kernel
theorem d_t_add_27 : decode cc_t_add 27 = .ok (.iload_n 1, 1) := by decide +kernel
theorem d_t_add_28 : decode cc_t_add 28 = .ok (.iastore, 1) := by decide +kernel
theorem d_t_add_29 : decode cc_t_add 29 = .ok (.aload_n 0, 1) := by decide +kernel
theorem d_t_add_30 : decode cc_t_add 30 = .ok (.getfield 15, 3) := by decide +kernel
theorem d_t_add_33 : decode cc_t_add 33 = .ok (.aload_n 0, 1) := by decide +kernel
theorem d_t_add_34 : decode cc_t_add 34 = .ok (.getfield 30, 3) := by decide +kernel
theorem d_t_add_37 : decode cc_t_add 37 = .ok (.iload_n 2, 1) := by decide +kernel
theorem d_t_add_38 : decode cc_t_add 38 = .ok (.iastore, 1) := by decide +kernel
theorem d_t_add_39 : decode cc_t_add 39 = .ok (.aload_n 0, 1) := by decide +kernel
theorem d_t_add_40 : decode cc_t_add 40 = .ok (.getfield 18, 3) := by decide +kernel
theorem d_t_add_43 : decode cc_t_add 43 = .ok (.aload_n 0, 1) := by decide +kernel
theorem d_t_add_44 : decode cc_t_add 44 = .ok (.getfield 30, 3) := by decide +kernel
theorem d_t_add_47 : decode cc_t_add 47 = .ok (.iload_n 3, 1) := by decide +kernel
theorem d_t_add_48 : decode cc_t_add 48 = .ok (.iastore, 1) := by decide +kernel
theorem d_t_add_49 : decode cc_t_add 49 = .ok (.aload_n 0, 1) := by decide +kernel
theorem d_t_add_50 : decode cc_t_add 50 = .ok (.dup, 1) := by decide +kernel
theorem d_t_add_51 : decode cc_t_add 51 = .ok (.getfield 30, 3) := by decide +kernel
theorem d_t_add_54 : decode cc_t_add 54 = .ok (.iconst 1, 1) := by decide +kernel
theorem d_t_add_55 : decode cc_t_add 55 = .ok (.iadd, 1) := by decide +kernel
theorem d_t_add_56 : decode cc_t_add 56 = .ok (.putfield 30, 3) := by decide +kernel
theorem d_t_add_59 : decode cc_t_add 59 = .ok (.aload_n 0, 1) := by decide +kernel
theorem d_t_add_60 : decode cc_t_add 60 = .ok (.invokevirtual 41, 3) := by decide +kernel
theorem d_t_add_63 : decode cc_t_add 63 = .ok (.aload_n 0, 1) := by decide +kernel
theorem d_t_add_64 : decode cc_t_add 64 = .ok (.getfield 30, 3) := by decide +kernel
theorem d_t_add_67 : decode cc_t_add 67 = .ok (.iconst 1, 1) := by decide +kernel
theorem d_t_add_68 : decode cc_t_add 68 = .ok (.isub, 1) := by decide +kernel
theorem d_t_add_69 : decode cc_t_add 69 = .ok (.ireturn, 1) := by decide +kernel
theorem d_t_fill_0 : decode cc_t_fill 0 = .ok (.iconst 0, 1) := by decide +kernel
theorem d_t_fill_1 : decode cc_t_fill 1 = .ok (.istore_n 1, 1) := by decide +kernel
theorem d_t_fill_2 : decode cc_t_fill 2 = .ok (.iload_n 1, 1) := by decide +kernel
theorem d_t_fill_3 : decode cc_t_fill 3 = .ok (.sipush 200, 3) := by decide +kernel
theorem d_t_fill_6 : decode cc_t_fill 6 = .ok (.if_icmp .gt 55, 3) := by decide +kernel
theorem d_t_fill_9 : decode cc_t_fill 9 = .ok (.aload_n 0, 1) := by decide +kernel
theorem d_t_fill_10 : decode cc_t_fill 10 = .ok (.getfield 21, 3) := by decide +kernel
theorem d_t_fill_13 : decode cc_t_fill 13 = .ok (.iload_n 1, 1) := by decide +kernel
theorem d_t_fill_14 : decode cc_t_fill 14 = .ok (.iload_n 1, 1) := by decide +kernel
theorem d_t_fill_15 : decode cc_t_fill 15 = .ok (.ldc 44, 2) := by decide +kernel
theorem d_t_fill_17 : decode cc_t_fill 17 = .ok (.imul, 1) := by decide +kernel
theorem d_t_fill_18 : decode cc_t_fill 18 = .ok (.iastore, 1) := by decide +kernel
theorem d_t_fill_19 : decode cc_t_fill 19 = .ok (.aload_n 0, 1) := by decide +kernel
theorem d_t_fill_20 : decode cc_t_fill 20 = .ok (.getfield 24, 3) := by decide +kernel
theorem d_t_fill_23 : decode cc_t_fill 23 = .ok (.iload_n 1, 1) := by decide +kernel
theorem d_t_fill_24 : decode cc_t_fill 24 = .ok (.iconst (-1), 1) := by decide +kernel
theorem d_t_fill_25 : decode cc_t_fill 25 = .ok (.iastore, 1) := by decide +kernel
theorem d_t_fill_26 : decode cc_t_fill 26 = .ok (.aload_n 0, 1) := by decide +kernel
theorem d_t_fill_27 : decode cc_t_fill 27 = .ok (.getfield 27, 3) := by decide +kernel
theorem d_t_fill_30 : decode cc_t_fill 30 = .ok (.iload_n 1, 1) := by decide +kernel
theorem d_t_fill_31 : decode cc_t_fill 31 = .ok (.iconst 0, 1) := by decide +kernel
theorem d_t_fill_32 : decode cc_t_fill 32 = .ok (.iastore, 1) := by decide +kernel
theorem d_t_fill_33 : decode cc_t_fill 33 = .ok (.iconst 0, 1) := by decide +kernel
theorem d_t_fill_34 : decode cc_t_fill 34 = .ok (.istore_n 2, 1) := by decide +kernel
theorem d_t_fill_35 : decode cc_t_fill 35 = .ok (.iload_n 2, 1) := by decide +kernel
theorem d_t_fill_36 : decode cc_t_fill 36 = .ok (.aload_n 0, 1) := by decide +kernel
theorem d_t_fill_37 : decode cc_t_fill 37 = .ok (.getfield 30, 3) := by decide +kernel
theorem d_t_fill_40 : decode cc_t_fill 40 = .ok (.if_icmp .ge 15, 3) := by decide +kernel
theorem d_t_fill_43 : decode cc_t_fill 43 = .ok (.aload_n 0, 1) := by decide +kernel
theorem d_t_fill_44 : decode cc_t_fill 44 = .ok (.iload_n 1, 1) := by decide +kernel
theorem d_t_fill_45 : decode cc_t_fill 45 = .ok (.iload_n 2, 1) := by decide +kernel
theorem d_t_fill_46 : decode cc_t_fill 46 = .ok (.invokevirtual 45, 3) := by decide +kernel
theorem d_t_fill_49 : decode cc_t_fill 49 = .ok (.iinc 2 1, 3) := by decide +kernel
theorem d_t_fill_52 : decode cc_t_fill 52 = .ok (.goto (-17), 3) := by decide +kernel
theorem d_t_fill_55 : decode cc_t_fill 55 = .ok (.iinc 1 1, 3) := by decide +kernel
theorem d_t_fill_58 : decode cc_t_fill 58 = .ok (.goto (-56), 3) := by decide +kernel
theorem d_t_fill_61 : decode cc_t_fill 61 = .ok (.return_, 1) := by decide +kernel
theorem d_t_tryFirst_0 : decode cc_t_tryFirst 0 = .ok (.aload_n 0, 1) := by decide +kernel
theorem d_t_tryFirst_1 : decode cc_t_tryFirst 1 = .ok (.getfield 15, 3) := by decide +kernel
theorem d_t_tryFirst_4 : decode cc_t_tryFirst 4 = .ok (.iload_n 2, 1) := by decide +kernel
theorem d_t_tryFirst_5 : decode cc_t_tryFirst 5 = .ok (.iaload, 1) := by decide +kernel
theorem d_t_tryFirst_6 : decode cc_t_tryFirst 6 = .ok (.iload_n 1, 1) := by decide +kernel
theorem d_t_tryFirst_7 : decode cc_t_tryFirst 7 = .ok (.invokestatic 49, 3) := by decide +kernel
theorem d_t_tryFirst_10 : decode cc_t_tryFirst 10 = .ok (.istore_n 3, 1) := by decide +kernel
theorem d_t_tryFirst_11 : decode cc_t_tryFirst 11 = .ok (.iconst 1, 1) := by decide +kernel
theorem d_t_tryFirst_12 : decode cc_t_tryFirst 12 = .ok (.aload_n 0, 1) := by decide +kernel
theorem d_t_tryFirst_13 : decode cc_t_tryFirst 13 = .ok (.getfield 18, 3) := by decide +kernel
theorem d_t_tryFirst_16 : decode cc_t_tryFirst 16 = .ok (.iload_n 2, 1) := by decide +kernel
theorem d_t_tryFirst_17 : decode cc_t_tryFirst 17 = .ok (.iaload, 1) := by decide +kernel
theorem d_t_tryFirst_18 : decode cc_t_tryFirst 18 = .ok (.sipush 256, 3) := by decide +kernel
theorem d_t_tryFirst_21 : decode cc_t_tryFirst 21 = .ok (.imul, 1) := by decide +kernel
theorem d_t_tryFirst_22 : decode cc_t_tryFirst 22 = .ok (.isub, 1) := by decide +kernel
theorem d_t_tryFirst_23 : decode cc_t_tryFirst 23 = .ok (.istore 4, 2) := by decide +kernel
theorem d_t_tryFirst_25 : decode cc_t_tryFirst 25 = .ok (.aload_n 0, 1) := by decide +kernel
theorem d_t_tryFirst_26 : decode cc_t_tryFirst 26 = .ok (.getfield 9, 3) := by decide +kernel
theorem d_t_tryFirst_29 : decode cc_t_tryFirst 29 = .ok (.iload_n 2, 1) := by decide +kernel
theorem d_t_tryFirst_30 : decode cc_t_tryFirst 30 = .ok (.iaload, 1) := by decide +kernel
theorem d_t_tryFirst_31 : decode cc_t_tryFirst 31 = .ok (.istore 5, 2) := by decide +kernel
theorem d_t_tryFirst_33 : decode cc_t_tryFirst 33 = .ok (.iload 5, 2) := by decide +kernel
theorem d_t_tryFirst_35 : decode cc_t_tryFirst 35 = .ok (.iload_n 3, 1) := by decide +kernel
theorem d_t_tryFirst_36 : decode cc_t_tryFirst 36 = .ok (.if_icmp .gt 57, 3) := by decide +kernel
theorem d_t_tryFirst_39 : decode cc_t_tryFirst 39 = .ok (.aload_n 0, 1) := by decide +kernel
theorem d_t_tryFirst_40 : decode cc_t_tryFirst 40 = .ok (.getfield 21, 3) := by decide +kernel
theorem d_t_tryFirst_43 : decode cc_t_tryFirst 43 = .ok (.iload_n 1, 1) := by decide +kernel
theorem d_t_tryFirst_44 : decode cc_t_tryFirst 44 = .ok (.iload 5, 2) := by decide +kernel
theorem d_t_tryFirst_46 : decode cc_t_tryFirst 46 = .ok (.isub, 1) := by decide +kernel
theorem d_t_tryFirst_47 : decode cc_t_tryFirst 47 = .ok (.iaload, 1) := by decide +kernel
theorem d_t_tryFirst_48 : decode cc_t_tryFirst 48 = .ok (.iload 4, 2) := by decide +kernel
theorem d_t_tryFirst_50 : decode cc_t_tryFirst 50 = .ok (.iadd, 1) := by decide +kernel
theorem d_t_tryFirst_51 : decode cc_t_tryFirst 51 = .ok (.istore 6, 2) := by decide +kernel
theorem d_t_tryFirst_53 : decode cc_t_tryFirst 53 = .ok (.iload 6, 2) := by decide +kernel
theorem d_t_tryFirst_55 : decode cc_t_tryFirst 55 = .ok (.aload_n 0, 1) := by decide +kernel
theorem d_t_tryFirst_56 : decode cc_t_tryFirst 56 = .ok (.getfield 21, 3) := by decide +kernel
theorem d_t_tryFirst_59 : decode cc_t_tryFirst 59 = .ok (.iload_n 1, 1) := by decide +kernel
theorem d_t_tryFirst_60 : decode cc_t_tryFirst 60 = .ok (.iaload, 1) := by decide +kernel
theorem d_t_tryFirst_61 : decode cc_t_tryFirst 61 = .ok (.if_icmp .ge 26, 3) := by decide +kernel
theorem d_t_tryFirst_64 : decode cc_t_tryFirst 64 = .ok (.aload_n 0, 1) := by decide +kernel
theorem d_t_tryFirst_65 : decode cc_t_tryFirst 65 = .ok (.getfield 21, 3) := by decide +kernel
theorem d_t_tryFirst_68 : decode cc_t_tryFirst 68 = .ok (.iload_n 1, 1) := by decide +kernel
theorem d_t_tryFirst_69 : decode cc_t_tryFirst 69 = .ok (.iload 6, 2) := by decide +kernel
theorem d_t_tryFirst_71 : decode cc_t_tryFirst 71 = .ok (.iastore, 1) := by decide +kernel
theorem d_t_tryFirst_72 : decode cc_t_tryFirst 72 = .ok (.aload_n 0, 1) := by decide +kernel
theorem d_t_tryFirst_73 : decode cc_t_tryFirst 73 = .ok (.getfield 24, 3) := by decide +kernel
theorem d_t_tryFirst_76 : decode cc_t_tryFirst 76 = .ok (.iload_n 1, 1) := by decide +kernel
theorem d_t_tryFirst_77 : decode cc_t_tryFirst 77 = .ok (.iload_n 2, 1) := by decide +kernel
theorem d_t_tryFirst_78 : decode cc_t_tryFirst 78 = .ok (.iastore, 1) := by decide +kernel
theorem d_t_tryFirst_79 : decode cc_t_tryFirst 79 = .ok (.aload_n 0, 1) := by decide +kernel
theorem d_t_tryFirst_80 : decode cc_t_tryFirst 80 = .ok (.getfield 27, 3) := by decide +kernel
theorem d_t_tryFirst_83 : decode cc_t_tryFirst 83 = .ok (.iload_n 1, 1) := by decide +kernel
theorem d_t_tryFirst_84 : decode cc_t_tryFirst 84 = .ok (.iload 5, 2) := by decide +kernel
theorem d_t_tryFirst_86 : decode cc_t_tryFirst 86 = .ok (.iastore, 1) := by decide +kernel
theorem d_t_tryFirst_87 : decode cc_t_tryFirst 87 = .ok (.iinc 5 1, 3) := by decide +kernel
theorem d_t_tryFirst_90 : decode cc_t_tryFirst 90 = .ok (.goto (-57), 3) := by decide +kernel
theorem d_t_tryFirst_93 : decode cc_t_tryFirst 93 = .ok (.return_, 1) := by decide +kernel
theorem d_b_init_0 : decode cc_b_init 0 = .ok (.aload_n 0, 1) := by decide +kernel
theorem d_b_init_1 : decode cc_b_init 1 = .ok (.invokespecial 3, 3) := by decide +kernel
theorem d_b_init_4 : decode cc_b_init 4 = .ok (.aload_n 0, 1) := by decide +kernel
theorem d_b_init_5 : decode cc_b_init 5 = .ok (.sipush 200, 3) := by decide +kernel
theorem d_b_init_8 : decode cc_b_init 8 = .ok (.newarray .int, 2) := by decide +kernel
theorem d_b_init_10 : decode cc_b_init 10 = .ok (.putfield 9, 3) := by decide +kernel
theorem d_b_init_13 : decode cc_b_init 13 = .ok (.aload_n 0, 1) := by decide +kernel
theorem d_b_init_14 : decode cc_b_init 14 = .ok (.sipush 200, 3) := by decide +kernel
theorem d_b_init_17 : decode cc_b_init 17 = .ok (.newarray .int, 2) := by decide +kernel
theorem d_b_init_19 : decode cc_b_init 19 = .ok (.putfield 15, 3) := by decide +kernel
theorem d_b_init_22 : decode cc_b_init 22 = .ok (.aload_n 0, 1) := by decide +kernel
theorem d_b_init_23 : decode cc_b_init 23 = .ok (.sipush 200, 3) := by decide +kernel
theorem d_b_init_26 : decode cc_b_init 26 = .ok (.newarray .int, 2) := by decide +kernel
theorem d_b_init_28 : decode cc_b_init 28 = .ok (.putfield 18, 3) := by decide +kernel
theorem d_b_init_31 : decode cc_b_init 31 = .ok (.aload_n 0, 1) := by decide +kernel
theorem d_b_init_32 : decode cc_b_init 32 = .ok (.bipush 100, 2) := by decide +kernel
theorem d_b_init_34 : decode cc_b_init 34 = .ok (.putfield 21, 3) := by decide +kernel
theorem d_b_init_37 : decode cc_b_init 37 = .ok (.aload_n 0, 1) := by decide +kernel
theorem d_b_init_38 : decode cc_b_init 38 = .ok (.iconst 0, 1) := by decide +kernel
theorem d_b_init_39 : decode cc_b_init 39 = .ok (.putfield 25, 3) := by decide +kernel
theorem d_b_init_42 : decode cc_b_init 42 = .ok (.aload_n 0, 1) := by decide +kernel
theorem d_b_init_43 : decode cc_b_init 43 = .ok (.iconst 0, 1) := by decide +kernel
theorem d_b_init_44 : decode cc_b_init 44 = .ok (.putfield 28, 3) := by decide +kernel
theorem d_b_init_47 : decode cc_b_init 47 = .ok (.aload_n 0, 1) := by decide +kernel
theorem d_b_init_48 : decode cc_b_init 48 = .ok (.iconst 0, 1) := by decide +kernel
theorem d_b_init_49 : decode cc_b_init 49 = .ok (.putfield 31, 3) := by decide +kernel
theorem d_b_init_52 : decode cc_b_init 52 = .ok (.aload_n 0, 1) := by decide +kernel
theorem d_b_init_53 : decode cc_b_init 53 = .ok (.iconst 0, 1) := by decide +kernel
theorem d_b_init_54 : decode cc_b_init 54 = .ok (.putfield 34, 3) := by decide +kernel
theorem d_b_init_57 : decode cc_b_init 57 = .ok (.aload_n 0, 1) := by decide +kernel
theorem d_b_init_58 : decode cc_b_init 58 = .ok (.iconst 0, 1) := by decide +kernel
theorem d_b_init_59 : decode cc_b_init 59 = .ok (.putfield 37, 3) := by decide +kernel
theorem d_b_init_62 : decode cc_b_init 62 = .ok (.aload_n 0, 1) := by decide +kernel
theorem d_b_init_63 : decode cc_b_init 63 = .ok (.iconst 0, 1) := by decide +kernel
theorem d_b_init_64 : decode cc_b_init 64 = .ok (.putfield 40, 3) := by decide +kernel
theorem d_b_init_67 : decode cc_b_init 67 = .ok (.aload_n 0, 1) := by decide +kernel
theorem d_b_init_68 : decode cc_b_init 68 = .ok (.bipush 100, 2) := by decide +kernel
theorem d_b_init_70 : decode cc_b_init 70 = .ok (.putfield 43, 3) := by decide +kernel
theorem d_b_init_73 : decode cc_b_init 73 = .ok (.return_, 1) := by decide +kernel
theorem d_b_startBar_0 : decode cc_b_startBar 0 = .ok (.aload_n 0, 1) := by decide +kernel
theorem d_b_startBar_1 : decode cc_b_startBar 1 = .ok (.iload_n 1, 1) := by decide +kernel
theorem d_b_startBar_2 : decode cc_b_startBar 2 = .ok (.putfield 21, 3) := by decide +kernel
theorem d_b_startBar_5 : decode cc_b_startBar 5 = .ok (.aload_n 0, 1) := by decide +kernel
theorem d_b_startBar_6 : decode cc_b_startBar 6 = .ok (.iload_n 2, 1) := by decide +kernel
theorem d_b_startBar_7 : decode cc_b_startBar 7 = .ok (.putfield 25, 3) := by decide +kernel
theorem d_b_startBar_10 : decode cc_b_startBar 10 = .ok (.aload_n 0, 1) := by decide +kernel
theorem d_b_startBar_11 : decode cc_b_startBar 11 = .ok (.iconst 0, 1) := by decide +kernel
theorem d_b_startBar_12 : decode cc_b_startBar 12 = .ok (.putfield 37, 3) := by decide +kernel
theorem d_b_startBar_15 : decode cc_b_startBar 15 = .ok (.aload_n 0, 1) := by decide +kernel
theorem d_b_startBar_16 : decode cc_b_startBar 16 = .ok (.iconst 0, 1) := by decide +kernel
theorem d_b_startBar_17 : decode cc_b_startBar 17 = .ok (.putfield 40, 3) := by decide +kernel
theorem d_b_startBar_20 : decode cc_b_startBar 20 = .ok (.return_, 1) := by decide +kernel
theorem d_b_changeCrops_0 : decode cc_b_changeCrops 0 = .ok (.aload_n 0, 1) := by decide +kernel
theorem d_b_changeCrops_1 : decode cc_b_changeCrops 1 = .ok (.getfield 37, 3) := by decide +kernel
theorem d_b_changeCrops_4 : decode cc_b_changeCrops 4 = .ok (.ifCond .le 21, 3) := by decide +kernel
theorem d_b_changeCrops_7 : decode cc_b_changeCrops 7 = .ok (.iload_n 1, 1) := by decide +kernel
theorem d_b_changeCrops_8 : decode cc_b_changeCrops 8 = .ok (.aload_n 0, 1) := by decide +kernel
theorem d_b_changeCrops_9 : decode cc_b_changeCrops 9 = .ok (.getfield 28, 3) := by decide +kernel
theorem d_b_changeCrops_12 : decode cc_b_changeCrops 12 = .ok (.if_icmp .eq 13, 3) := by decide +kernel
theorem d_b_changeCrops_15 : decode cc_b_changeCrops 15 = .ok (.new 46, 3) := by decide +kernel
theorem d_b_changeCrops_18 : decode cc_b_changeCrops 18 = .ok (.dup, 1) := by decide +kernel
theorem d_b_changeCrops_19 : decode cc_b_changeCrops 19 = .ok (.ldc 48, 2) := by decide +kernel
theorem d_b_changeCrops_21 : decode cc_b_changeCrops 21 = .ok (.invokespecial 50, 3) := by decide +kernel
theorem d_b_changeCrops_24 : decode cc_b_changeCrops 24 = .ok (.athrow, 1) := by decide +kernel
theorem d_b_changeCrops_25 : decode cc_b_changeCrops 25 = .ok (.aload_n 0, 1) := by decide +kernel
theorem d_b_changeCrops_26 : decode cc_b_changeCrops 26 = .ok (.aload_n 0, 1) := by decide +kernel
theorem d_b_changeCrops_27 : decode cc_b_changeCrops 27 = .ok (.getfield 21, 3) := by decide +kernel
theorem d_b_changeCrops_30 : decode cc_b_changeCrops 30 = .ok (.aload_n 0, 1) := by decide +kernel
theorem d_b_changeCrops_31 : decode cc_b_changeCrops 31 = .ok (.getfield 25, 3) := by decide +kernel
theorem d_b_changeCrops_34 : decode cc_b_changeCrops 34 = .ok (.iload_n 1, 1) := by decide +kernel
theorem d_b_changeCrops_35 : decode cc_b_changeCrops 35 = .ok (.iload_n 2, 1) := by decide +kernel
theorem d_b_changeCrops_36 : decode cc_b_changeCrops 36 = .ok (.invokestatic 53, 3) := by decide +kernel
theorem d_b_changeCrops_39 : decode cc_b_changeCrops 39 = .ok (.invokevirtual 57, 3) := by decide +kernel
theorem d_b_changeCrops_42 : decode cc_b_changeCrops 42 = .ok (.aload_n 0, 1) := by decide +kernel
theorem d_b_changeCrops_43 : decode cc_b_changeCrops 43 = .ok (.iload_n 1, 1) := by decide +kernel
theorem d_b_changeCrops_44 : decode cc_b_changeCrops 44 = .ok (.putfield 28, 3) := by decide +kernel
theorem d_b_changeCrops_47 : decode cc_b_changeCrops 47 = .ok (.aload_n 0, 1) := by decide +kernel
theorem d_b_changeCrops_48 : decode cc_b_changeCrops 48 = .ok (.iload_n 2, 1) := by decide +kernel
theorem d_b_changeCrops_49 : decode cc_b_changeCrops 49 = .ok (.putfield 31, 3) := by decide +kernel
theorem d_b_changeCrops_52 : decode cc_b_changeCrops 52 = .ok (.return_, 1) := by decide +kernel
theorem d_b_learnLength_0 : decode cc_b_learnLength 0 = .ok (.aload_n 0, 1) := by decide +kernel
theorem d_b_learnLength_1 : decode cc_b_learnLength 1 = .ok (.iload_n 1, 1) := by decide +kernel
theorem d_b_learnLength_2 : decode cc_b_learnLength 2 = .ok (.iconst 0, 1) := by decide +kernel
theorem d_b_learnLength_3 : decode cc_b_learnLength 3 = .ok (.aload_n 0, 1) := by decide +kernel
theorem d_b_learnLength_4 : decode cc_b_learnLength 4 = .ok (.getfield 28, 3) := by decide +kernel
theorem d_b_learnLength_7 : decode cc_b_learnLength 7 = .ok (.aload_n 0, 1) := by decide +kernel
theorem d_b_learnLength_8 : decode cc_b_learnLength 8 = .ok (.getfield 31, 3) := by decide +kernel
theorem d_b_learnLength_11 : decode cc_b_learnLength 11 = .ok (.invokestatic 53, 3) := by decide +kernel
theorem d_b_learnLength_14 : decode cc_b_learnLength 14 = .ok (.invokevirtual 57, 3) := by decide +kernel
theorem d_b_learnLength_17 : decode cc_b_learnLength 17 = .ok (.aload_n 0, 1) := by decide +kernel
theorem d_b_learnLength_18 : decode cc_b_learnLength 18 = .ok (.iload_n 1, 1) := by decide +kernel
theorem d_b_learnLength_19 : decode cc_b_learnLength 19 = .ok (.putfield 21, 3) := by decide +kernel
theorem d_b_learnLength_22 : decode cc_b_learnLength 22 = .ok (.aload_n 0, 1) := by decide +kernel
theorem d_b_learnLength_23 : decode cc_b_learnLength 23 = .ok (.iconst 0, 1) := by decide +kernel
theorem d_b_learnLength_24 : decode cc_b_learnLength 24 = .ok (.putfield 25, 3) := by decide +kernel
theorem d_b_learnLength_27 : decode cc_b_learnLength 27 = .ok (.return_, 1) := by decide +kernel
theorem d_b_requireCutsFit_0 : decode cc_b_requireCutsFit 0 = .ok (.aload_n 0, 1) := by decide +kernel
theorem d_b_requireCutsFit_1 : decode cc_b_requireCutsFit 1 = .ok (.getfield 40, 3) := by decide +kernel
theorem d_b_requireCutsFit_4 : decode cc_b_requireCutsFit 4 = .ok (.iload_n 1, 1) := by decide +kernel
theorem d_b_requireCutsFit_5 : decode cc_b_requireCutsFit 5 = .ok (.if_icmp .le 13, 3) := by decide +kernel
theorem d_b_requireCutsFit_8 : decode cc_b_requireCutsFit 8 = .ok (.new 46, 3) := by decide +kernel
theorem d_b_requireCutsFit_11 : decode cc_b_requireCutsFit 11 = .ok (.dup, 1) := by decide +kernel
theorem d_b_requireCutsFit_12 : decode cc_b_requireCutsFit 12 = .ok (.ldc 61, 2) := by decide +kernel
theorem d_b_requireCutsFit_14 : decode cc_b_requireCutsFit 14 = .ok (.invokespecial 50, 3) := by decide +kernel
theorem d_b_requireCutsFit_17 : decode cc_b_requireCutsFit 17 = .ok (.athrow, 1) := by decide +kernel
theorem d_b_requireCutsFit_18 : decode cc_b_requireCutsFit 18 = .ok (.return_, 1) := by decide +kernel
theorem d_b_roomOf_0 : decode cc_b_roomOf 0 = .ok (.iconst 0, 1) := by decide +kernel
theorem d_b_roomOf_1 : decode cc_b_roomOf 1 = .ok (.iload_n 0, 1) := by decide +kernel
theorem d_b_roomOf_2 : decode cc_b_roomOf 2 = .ok (.iload_n 1, 1) := by decide +kernel
theorem d_b_roomOf_3 : decode cc_b_roomOf 3 = .ok (.isub, 1) := by decide +kernel
theorem d_b_roomOf_4 : decode cc_b_roomOf 4 = .ok (.iload_n 2, 1) := by decide +kernel
theorem d_b_roomOf_5 : decode cc_b_roomOf 5 = .ok (.isub, 1) := by decide +kernel
theorem d_b_roomOf_6 : decode cc_b_roomOf 6 = .ok (.iload_n 3, 1) := by decide +kernel
theorem d_b_roomOf_7 : decode cc_b_roomOf 7 = .ok (.isub, 1) := by decide +kernel
theorem d_b_roomOf_8 : decode cc_b_roomOf 8 = .ok (.invokestatic 63, 3) := by decide +kernel
theorem d_b_roomOf_11 : decode cc_b_roomOf 11 = .ok (.ireturn, 1) := by decide +kernel
theorem d_b_planRest_0 : decode cc_b_planRest 0 = .ok (.aload_n 0, 1) := by decide +kernel
theorem d_b_planRest_1 : decode cc_b_planRest 1 = .ok (.getfield 21, 3) := by decide +kernel
theorem d_b_planRest_4 : decode cc_b_planRest 4 = .ok (.aload_n 0, 1) := by decide +kernel
theorem d_b_planRest_5 : decode cc_b_planRest 5 = .ok (.getfield 25, 3) := by decide +kernel
theorem d_b_planRest_8 : decode cc_b_planRest 8 = .ok (.aload_n 0, 1) := by decide +kernel
theorem d_b_planRest_9 : decode cc_b_planRest 9 = .ok (.getfield 28, 3) := by decide +kernel
theorem d_b_planRest_12 : decode cc_b_planRest 12 = .ok (.aload_n 0, 1) := by decide +kernel
theorem d_b_planRest_13 : decode cc_b_planRest 13 = .ok (.getfield 31, 3) := by decide +kernel
theorem d_b_planRest_16 : decode cc_b_planRest 16 = .ok (.invokestatic 53, 3) := by decide +kernel
theorem d_b_planRest_19 : decode cc_b_planRest 19 = .ok (.aload_n 0, 1) := by decide +kernel
theorem d_b_planRest_20 : decode cc_b_planRest 20 = .ok (.getfield 40, 3) := by decide +kernel
theorem d_b_planRest_23 : decode cc_b_planRest 23 = .ok (.isub, 1) := by decide +kernel
theorem d_b_planRest_24 : decode cc_b_planRest 24 = .ok (.istore_n 2, 1) := by decide +kernel
theorem d_b_planRest_25 : decode cc_b_planRest 25 = .ok (.aload_n 0, 1) := by decide +kernel
theorem d_b_planRest_26 : decode cc_b_planRest 26 = .ok (.getfield 28, 3) := by decide +kernel
theorem d_b_planRest_29 : decode cc_b_planRest 29 = .ok (.aload_n 0, 1) := by decide +kernel
theorem d_b_planRest_30 : decode cc_b_planRest 30 = .ok (.getfield 40, 3) := by decide +kernel
theorem d_b_planRest_33 : decode cc_b_planRest 33 = .ok (.iadd, 1) := by decide +kernel
theorem d_b_planRest_34 : decode cc_b_planRest 34 = .ok (.istore_n 3, 1) := by decide +kernel
theorem d_b_planRest_35 : decode cc_b_planRest 35 = .ok (.aload_n 0, 1) := by decide +kernel
theorem d_b_planRest_36 : decode cc_b_planRest 36 = .ok (.aload_n 0, 1) := by decide +kernel
theorem d_b_planRest_37 : decode cc_b_planRest 37 = .ok (.getfield 37, 3) := by decide +kernel
theorem d_b_planRest_40 : decode cc_b_planRest 40 = .ok (.putfield 34, 3) := by decide +kernel
theorem d_b_planRest_43 : decode cc_b_planRest 43 = .ok (.aload_n 0, 1) := by decide +kernel
theorem d_b_planRest_44 : decode cc_b_planRest 44 = .ok (.getfield 37, 3) := by decide +kernel
theorem d_b_planRest_47 : decode cc_b_planRest 47 = .ok (.istore 4, 2) := by decide +kernel
theorem d_b_planRest_49 : decode cc_b_planRest 49 = .ok (.iload 4, 2) := by decide +kernel
theorem d_b_planRest_51 : decode cc_b_planRest 51 = .ok (.sipush 200, 3) := by decide +kernel
theorem d_b_planRest_54 : decode cc_b_planRest 54 = .ok (.if_icmp .ge 78, 3) := by decide +kernel
theorem d_b_planRest_57 : decode cc_b_planRest 57 = .ok (.aload_n 1, 1) := by decide +kernel
theorem d_b_planRest_58 : decode cc_b_planRest 58 = .ok (.getfield 69, 3) := by decide +kernel
theorem d_b_planRest_61 : decode cc_b_planRest 61 = .ok (.iload_n 2, 1) := by decide +kernel
theorem d_b_planRest_62 : decode cc_b_planRest 62 = .ok (.invokestatic 74, 3) := by decide +kernel
theorem d_b_planRest_65 : decode cc_b_planRest 65 = .ok (.istore 5, 2) := by decide +kernel
theorem d_b_planRest_67 : decode cc_b_planRest 67 = .ok (.iload 5, 2) := by decide +kernel
theorem d_b_planRest_69 : decode cc_b_planRest 69 = .ok (.iconst 1, 1) := by decide +kernel
theorem d_b_planRest_70 : decode cc_b_planRest 70 = .ok (.if_icmp .ge 6, 3) := by decide +kernel
theorem d_b_planRest_73 : decode cc_b_planRest 73 = .ok (.goto 59, 3) := by decide +kernel
theorem d_b_planRest_76 : decode cc_b_planRest 76 = .ok (.aload_n 0, 1) := by decide +kernel
theorem d_b_planRest_77 : decode cc_b_planRest 77 = .ok (.getfield 9, 3) := by decide +kernel
theorem d_b_planRest_80 : decode cc_b_planRest 80 = .ok (.iload 4, 2) := by decide +kernel
theorem d_b_planRest_82 : decode cc_b_planRest 82 = .ok (.aload_n 1, 1) := by decide +kernel
theorem d_b_planRest_83 : decode cc_b_planRest 83 = .ok (.getfield 78, 3) := by decide +kernel
theorem d_b_planRest_86 : decode cc_b_planRest 86 = .ok (.iload_n 2, 1) := by decide +kernel
theorem d_b_planRest_87 : decode cc_b_planRest 87 = .ok (.invokestatic 74, 3) := by decide +kernel
theorem d_b_planRest_90 : decode cc_b_planRest 90 = .ok (.iastore, 1) := by decide +kernel
theorem d_b_planRest_91 : decode cc_b_planRest 91 = .ok (.aload_n 0, 1) := by decide +kernel
theorem d_b_planRest_92 : decode cc_b_planRest 92 = .ok (.getfield 15, 3) := by decide +kernel
theorem d_b_planRest_95 : decode cc_b_planRest 95 = .ok (.iload 4, 2) := by decide +kernel
theorem d_b_planRest_97 : decode cc_b_planRest 97 = .ok (.iload_n 3, 1) := by decide +kernel
theorem d_b_planRest_98 : decode cc_b_planRest 98 = .ok (.iastore, 1) := by decide +kernel
theorem d_b_planRest_99 : decode cc_b_planRest 99 = .ok (.aload_n 0, 1) := by decide +kernel
theorem d_b_planRest_100 : decode cc_b_planRest 100 = .ok (.getfield 18, 3) := by decide +kernel
theorem d_b_planRest_103 : decode cc_b_planRest 103 = .ok (.iload 4, 2) := by decide +kernel
theorem d_b_planRest_105 : decode cc_b_planRest 105 = .ok (.iload 5, 2) := by decide +kernel
theorem d_b_planRest_107 : decode cc_b_planRest 107 = .ok (.iastore, 1) := by decide +kernel
theorem d_b_planRest_108 : decode cc_b_planRest 108 = .ok (.iload_n 3, 1) := by decide +kernel
theorem d_b_planRest_109 : decode cc_b_planRest 109 = .ok (.iload 5, 2) := by decide +kernel
theorem d_b_planRest_111 : decode cc_b_planRest 111 = .ok (.iadd, 1) := by decide +kernel
theorem d_b_planRest_112 : decode cc_b_planRest 112 = .ok (.istore_n 3, 1) := by decide +kernel
theorem d_b_planRest_113 : decode cc_b_planRest 113 = .ok (.iload_n 2, 1) := by decide +kernel
theorem d_b_planRest_114 : decode cc_b_planRest 114 = .ok (.iload 5, 2) := by decide +kernel
theorem d_b_planRest_116 : decode cc_b_planRest 116 = .ok (.isub, 1) := by decide +kernel
theorem d_b_planRest_117 : decode cc_b_planRest 117 = .ok (.istore_n 2, 1) := by decide +kernel
theorem d_b_planRest_118 : decode cc_b_planRest 118 = .ok (.aload_n 0, 1) := by decide +kernel
theorem d_b_planRest_119 : decode cc_b_planRest 119 = .ok (.iload 4, 2) := by decide +kernel
theorem d_b_planRest_121 : decode cc_b_planRest 121 = .ok (.iconst 1, 1) := by decide +kernel
theorem d_b_planRest_122 : decode cc_b_planRest 122 = .ok (.iadd, 1) := by decide +kernel
theorem d_b_planRest_123 : decode cc_b_planRest 123 = .ok (.putfield 34, 3) := by decide +kernel
theorem d_b_planRest_126 : decode cc_b_planRest 126 = .ok (.iinc 4 1, 3) := by decide +kernel
theorem d_b_planRest_129 : decode cc_b_planRest 129 = .ok (.goto (-80), 3) := by decide +kernel
theorem d_b_planRest_132 : decode cc_b_planRest 132 = .ok (.aload_n 0, 1) := by decide +kernel
theorem d_b_planRest_133 : decode cc_b_planRest 133 = .ok (.iload_n 2, 1) := by decide +kernel
theorem d_b_planRest_134 : decode cc_b_planRest 134 = .ok (.putfield 43, 3) := by decide +kernel
theorem d_b_planRest_137 : decode cc_b_planRest 137 = .ok (.return_, 1) := by decide +kernel
theorem d_b_markNextCut_0 : decode cc_b_markNextCut 0 = .ok (.aload_n 0, 1) := by decide +kernel
theorem d_b_markNextCut_1 : decode cc_b_markNextCut 1 = .ok (.getfield 37, 3) := by decide +kernel
theorem d_b_markNextCut_4 : decode cc_b_markNextCut 4 = .ok (.aload_n 0, 1) := by decide +kernel
theorem d_b_markNextCut_5 : decode cc_b_markNextCut 5 = .ok (.getfield 34, 3) := by decide +kernel
theorem d_b_markNextCut_8 : decode cc_b_markNextCut 8 = .ok (.if_icmp .ge 30, 3) := by decide +kernel
theorem d_b_markNextCut_11 : decode cc_b_markNextCut 11 = .ok (.aload_n 0, 1) := by decide +kernel
theorem d_b_markNextCut_12 : decode cc_b_markNextCut 12 = .ok (.dup, 1) := by decide +kernel
theorem d_b_markNextCut_13 : decode cc_b_markNextCut 13 = .ok (.getfield 40, 3) := by decide +kernel
theorem d_b_markNextCut_16 : decode cc_b_markNextCut 16 = .ok (.aload_n 0, 1) := by decide +kernel
theorem d_b_markNextCut_17 : decode cc_b_markNextCut 17 = .ok (.aload_n 0, 1) := by decide +kernel
theorem d_b_markNextCut_18 : decode cc_b_markNextCut 18 = .ok (.getfield 37, 3) := by decide +kernel
theorem d_b_markNextCut_21 : decode cc_b_markNextCut 21 = .ok (.invokevirtual 81, 3) := by decide +kernel
theorem d_b_markNextCut_24 : decode cc_b_markNextCut 24 = .ok (.iadd, 1) := by decide +kernel
theorem d_b_markNextCut_25 : decode cc_b_markNextCut 25 = .ok (.putfield 40, 3) := by decide +kernel
theorem d_b_markNextCut_28 : decode cc_b_markNextCut 28 = .ok (.aload_n 0, 1) := by decide +kernel
theorem d_b_markNextCut_29 : decode cc_b_markNextCut 29 = .ok (.dup, 1) := by decide +kernel
theorem d_b_markNextCut_30 : decode cc_b_markNextCut 30 = .ok (.getfield 37, 3) := by decide +kernel
theorem d_b_markNextCut_33 : decode cc_b_markNextCut 33 = .ok (.iconst 1, 1) := by decide +kernel
theorem d_b_markNextCut_34 : decode cc_b_markNextCut 34 = .ok (.iadd, 1) := by decide +kernel
theorem d_b_markNextCut_35 : decode cc_b_markNextCut 35 = .ok (.putfield 37, 3) := by decide +kernel
theorem d_b_markNextCut_38 : decode cc_b_markNextCut 38 = .ok (.return_, 1) := by decide +kernel
theorem d_b_wantedOf_0 : decode cc_b_wantedOf 0 = .ok (.aload_n 0, 1) := by decide +kernel
theorem d_b_wantedOf_1 : decode cc_b_wantedOf 1 = .ok (.getfield 9, 3) := by decide +kernel
theorem d_b_wantedOf_4 : decode cc_b_wantedOf 4 = .ok (.iload_n 1, 1) := by decide +kernel
theorem d_b_wantedOf_5 : decode cc_b_wantedOf 5 = .ok (.invokestatic 74, 3) := by decide +kernel
theorem d_b_wantedOf_8 : decode cc_b_wantedOf 8 = .ok (.ireturn, 1) := by decide +kernel
theorem d_b_beginOf_0 : decode cc_b_beginOf 0 = .ok (.aload_n 0, 1) := by decide +kernel
theorem d_b_beginOf_1 : decode cc_b_beginOf 1 = .ok (.getfield 15, 3) := by decide +kernel
theorem d_b_beginOf_4 : decode cc_b_beginOf 4 = .ok (.iload_n 1, 1) := by decide +kernel
theorem d_b_beginOf_5 : decode cc_b_beginOf 5 = .ok (.invokestatic 74, 3) := by decide +kernel
theorem d_b_beginOf_8 : decode cc_b_beginOf 8 = .ok (.ireturn, 1) := by decide +kernel
theorem d_b_stepsOf_0 : decode cc_b_stepsOf 0 = .ok (.aload_n 0, 1) := by decide +kernel
theorem d_b_stepsOf_1 : decode cc_b_stepsOf 1 = .ok (.getfield 18, 3) := by decide +kernel
theorem d_b_stepsOf_4 : decode cc_b_stepsOf 4 = .ok (.iload_n 1, 1) := by decide +kernel
theorem d_b_stepsOf_5 : decode cc_b_stepsOf 5 = .ok (.invokestatic 74, 3) := by decide +kernel
theorem d_b_stepsOf_8 : decode cc_b_stepsOf 8 = .ok (.ireturn, 1) := by decide +kernel
theorem d_c_init_0 : decode cc_c_init 0 = .ok (.aload_n 0, 1) := by decide +kernel
theorem d_c_init_1 : decode cc_c_init 1 = .ok (.invokespecial 3, 3) := by decide +kernel
theorem d_c_init_4 : decode cc_c_init 4 = .ok (.aload_n 0, 1) := by decide +kernel
theorem d_c_init_5 : decode cc_c_init 5 = .ok (.bipush 20, 2) := by decide +kernel
theorem d_c_init_7 : decode cc_c_init 7 = .ok (.newarray .int, 2) := by decide +kernel
theorem d_c_init_9 : decode cc_c_init 9 = .ok (.putfield 9, 3) := by decide +kernel
theorem d_c_init_12 : decode cc_c_init 12 = .ok (.aload_n 0, 1) := by decide +kernel
theorem d_c_init_13 : decode cc_c_init 13 = .ok (.bipush 10, 2) := by decide +kernel
theorem d_c_init_15 : decode cc_c_init 15 = .ok (.putfield 15, 3) := by decide +kernel
theorem d_c_init_18 : decode cc_c_init 18 = .ok (.aload_n 0, 1) := by decide +kernel
theorem d_c_init_19 : decode cc_c_init 19 = .ok (.sipush 200, 3) := by decide +kernel
theorem d_c_init_22 : decode cc_c_init 22 = .ok (.putfield 19, 3) := by decide +kernel
theorem d_c_init_25 : decode cc_c_init 25 = .ok (.aload_n 0, 1) := by decide +kernel
theorem d_c_init_26 : decode cc_c_init 26 = .ok (.iconst 0, 1) := by decide +kernel
theorem d_c_init_27 : decode cc_c_init 27 = .ok (.putfield 22, 3) := by decide +kernel
theorem d_c_init_30 : decode cc_c_init 30 = .ok (.iconst 0, 1) := by decide +kernel
theorem d_c_init_31 : decode cc_c_init 31 = .ok (.istore_n 1, 1) := by decide +kernel
theorem d_c_init_32 : decode cc_c_init 32 = .ok (.iload_n 1, 1) := by decide +kernel
theorem d_c_init_33 : decode cc_c_init 33 = .ok (.bipush 20, 2) := by decide +kernel
theorem d_c_init_35 : decode cc_c_init 35 = .ok (.if_icmp .ge 16, 3) := by decide +kernel
theorem d_c_init_38 : decode cc_c_init 38 = .ok (.aload_n 0, 1) := by decide +kernel
theorem d_c_init_39 : decode cc_c_init 39 = .ok (.getfield 9, 3) := by decide +kernel
theorem d_c_init_42 : decode cc_c_init 42 = .ok (.iload_n 1, 1) := by decide +kernel
theorem d_c_init_43 : decode cc_c_init 43 = .ok (.iconst (-1), 1) := by decide +kernel
theorem d_c_init_44 : decode cc_c_init 44 = .ok (.iastore, 1) := by decide +kernel
theorem d_c_init_45 : decode cc_c_init 45 = .ok (.iinc 1 1, 3) := by decide +kernel
theorem d_c_init_48 : decode cc_c_init 48 = .ok (.goto (-16), 3) := by decide +kernel
theorem d_c_init_51 : decode cc_c_init 51 = .ok (.return_, 1) := by decide +kernel
theorem d_c_lay_0 : decode cc_c_lay 0 = .ok (.iload_n 2, 1) := by decide +kernel
theorem d_c_lay_1 : decode cc_c_lay 1 = .ok (.aload_n 0, 1) := by decide +kernel
theorem d_c_lay_2 : decode cc_c_lay 2 = .ok (.getfield 19, 3) := by decide +kernel
theorem d_c_lay_5 : decode cc_c_lay 5 = .ok (.if_icmp .le 5, 3) := by decide +kernel
theorem d_c_lay_8 : decode cc_c_lay 8 = .ok (.iconst (-1), 1) := by decide +kernel
theorem d_c_lay_9 : decode cc_c_lay 9 = .ok (.ireturn, 1) := by decide +kernel
theorem d_c_lay_10 : decode cc_c_lay 10 = .ok (.iconst 0, 1) := by decide +kernel
theorem d_c_lay_11 : decode cc_c_lay 11 = .ok (.istore_n 3, 1) := by decide +kernel
theorem d_c_lay_12 : decode cc_c_lay 12 = .ok (.iload_n 3, 1) := by decide +kernel
theorem d_c_lay_13 : decode cc_c_lay 13 = .ok (.aload_n 0, 1) := by decide +kernel
theorem d_c_lay_14 : decode cc_c_lay 14 = .ok (.getfield 15, 3) := by decide +kernel
theorem d_c_lay_17 : decode cc_c_lay 17 = .ok (.if_icmp .ge 38, 3) := by decide +kernel
theorem d_c_lay_20 : decode cc_c_lay 20 = .ok (.aload_n 0, 1) := by decide +kernel
theorem d_c_lay_21 : decode cc_c_lay 21 = .ok (.getfield 9, 3) := by decide +kernel
theorem d_c_lay_24 : decode cc_c_lay 24 = .ok (.iload_n 3, 1) := by decide +kernel
theorem d_c_lay_25 : decode cc_c_lay 25 = .ok (.iaload, 1) := by decide +kernel
theorem d_c_lay_26 : decode cc_c_lay 26 = .ok (.iconst (-1), 1) := by decide +kernel
theorem d_c_lay_27 : decode cc_c_lay 27 = .ok (.if_icmp .ne 22, 3) := by decide +kernel
theorem d_c_lay_30 : decode cc_c_lay 30 = .ok (.aload_n 0, 1) := by decide +kernel
theorem d_c_lay_31 : decode cc_c_lay 31 = .ok (.getfield 9, 3) := by decide +kernel
theorem d_c_lay_34 : decode cc_c_lay 34 = .ok (.iload_n 3, 1) := by decide +kernel
theorem d_c_lay_35 : decode cc_c_lay 35 = .ok (.iload_n 1, 1) := by decide +kernel
theorem d_c_lay_36 : decode cc_c_lay 36 = .ok (.iastore, 1) := by decide +kernel
theorem d_c_lay_37 : decode cc_c_lay 37 = .ok (.aload_n 0, 1) := by decide +kernel
theorem d_c_lay_38 : decode cc_c_lay 38 = .ok (.dup, 1) := by decide +kernel
theorem d_c_lay_39 : decode cc_c_lay 39 = .ok (.getfield 22, 3) := by decide +kernel
theorem d_c_lay_42 : decode cc_c_lay 42 = .ok (.iconst 1, 1) := by decide +kernel
theorem d_c_lay_43 : decode cc_c_lay 43 = .ok (.iadd, 1) := by decide +kernel
theorem d_c_lay_44 : decode cc_c_lay 44 = .ok (.putfield 22, 3) := by decide +kernel
theorem d_c_lay_47 : decode cc_c_lay 47 = .ok (.iload_n 3, 1) := by decide +kernel
theorem d_c_lay_48 : decode cc_c_lay 48 = .ok (.ireturn, 1) := by decide +kernel
theorem d_c_lay_49 : decode cc_c_lay 49 = .ok (.iinc 3 1, 3) := by decide +kernel
theorem d_c_lay_52 : decode cc_c_lay 52 = .ok (.goto (-40), 3) := by decide +kernel
theorem d_c_lay_55 : decode cc_c_lay 55 = .ok (.iconst (-1), 1) := by decide +kernel
theorem d_c_lay_56 : decode cc_c_lay 56 = .ok (.ireturn, 1) := by decide +kernel
theorem d_c_cutOn_0 : decode cc_c_cutOn 0 = .ok (.aload_n 0, 1) := by decide +kernel
theorem d_c_cutOn_1 : decode cc_c_cutOn 1 = .ok (.getfield 9, 3) := by decide +kernel
theorem d_c_cutOn_4 : decode cc_c_cutOn 4 = .ok (.iload_n 1, 1) := by decide +kernel
theorem d_c_cutOn_5 : decode cc_c_cutOn 5 = .ok (.invokestatic 25, 3) := by decide +kernel
theorem d_c_cutOn_8 : decode cc_c_cutOn 8 = .ok (.ireturn, 1) := by decide +kernel
theorem d_c_free_0 : decode cc_c_free 0 = .ok (.iload_n 1, 1) := by decide +kernel
theorem d_c_free_1 : decode cc_c_free 1 = .ok (.ifCond .lt 19, 3) := by decide +kernel
theorem d_c_free_4 : decode cc_c_free 4 = .ok (.iload_n 1, 1) := by decide +kernel
theorem d_c_free_5 : decode cc_c_free 5 = .ok (.bipush 20, 2) := by decide +kernel
theorem d_c_free_7 : decode cc_c_free 7 = .ok (.if_icmp .ge 13, 3) := by decide +kernel
theorem d_c_free_10 : decode cc_c_free 10 = .ok (.aload_n 0, 1) := by decide +kernel
theorem d_c_free_11 : decode cc_c_free 11 = .ok (.getfield 9, 3) := by decide +kernel
theorem d_c_free_14 : decode cc_c_free 14 = .ok (.iload_n 1, 1) := by decide +kernel
theorem d_c_free_15 : decode cc_c_free 15 = .ok (.iaload, 1) := by decide +kernel
theorem d_c_free_16 : decode cc_c_free 16 = .ok (.iconst (-1), 1) := by decide +kernel
theorem d_c_free_17 : decode cc_c_free 17 = .ok (.if_icmp .ne 4, 3) := by decide +kernel
theorem d_c_free_20 : decode cc_c_free 20 = .ok (.return_, 1) := by decide +kernel
theorem d_c_free_21 : decode cc_c_free 21 = .ok (.aload_n 0, 1) := by decide +kernel
theorem d_c_free_22 : decode cc_c_free 22 = .ok (.getfield 9, 3) := by decide +kernel
theorem d_c_free_25 : decode cc_c_free 25 = .ok (.iload_n 1, 1) := by decide +kernel
theorem d_c_free_26 : decode cc_c_free 26 = .ok (.iconst (-1), 1) := by decide +kernel
theorem d_c_free_27 : decode cc_c_free 27 = .ok (.iastore, 1) := by decide +kernel
theorem d_c_free_28 : decode cc_c_free 28 = .ok (.aload_n 0, 1) := by decide +kernel
theorem d_c_free_29 : decode cc_c_free 29 = .ok (.dup, 1) := by decide +kernel
theorem d_c_free_30 : decode cc_c_free 30 = .ok (.getfield 22, 3) := by decide +kernel
theorem d_c_free_33 : decode cc_c_free 33 = .ok (.iconst 1, 1) := by decide +kernel
theorem d_c_free_34 : decode cc_c_free 34 = .ok (.isub, 1) := by decide +kernel
theorem d_c_free_35 : decode cc_c_free 35 = .ok (.putfield 22, 3) := by decide +kernel
theorem d_c_free_38 : decode cc_c_free 38 = .ok (.return_, 1) := by decide +kernel
theorem d_k_init_0 : decode cc_k_init 0 = .ok (.aload_n 0, 1) := by decide +kernel
theorem d_k_init_1 : decode cc_k_init 1 = .ok (.invokespecial 3, 3) := by decide +kernel
theorem d_k_init_4 : decode cc_k_init 4 = .ok (.aload_n 0, 1) := by decide +kernel
theorem d_k_init_5 : decode cc_k_init 5 = .ok (.sipush 300, 3) := by decide +kernel
theorem d_k_init_8 : decode cc_k_init 8 = .ok (.newarray .int, 2) := by decide +kernel
theorem d_k_init_10 : decode cc_k_init 10 = .ok (.putfield 9, 3) := by decide +kernel
theorem d_k_init_13 : decode cc_k_init 13 = .ok (.aload_n 0, 1) := by decide +kernel
theorem d_k_init_14 : decode cc_k_init 14 = .ok (.sipush 300, 3) := by decide +kernel
theorem d_k_init_17 : decode cc_k_init 17 = .ok (.newarray .int, 2) := by decide +kernel
theorem d_k_init_19 : decode cc_k_init 19 = .ok (.putfield 15, 3) := by decide +kernel
theorem d_k_init_22 : decode cc_k_init 22 = .ok (.aload_n 0, 1) := by decide +kernel
theorem d_k_init_23 : decode cc_k_init 23 = .ok (.sipush 300, 3) := by decide +kernel
theorem d_k_init_26 : decode cc_k_init 26 = .ok (.newarray .int, 2) := by decide +kernel
theorem d_k_init_28 : decode cc_k_init 28 = .ok (.putfield 18, 3) := by decide +kernel
theorem d_k_init_31 : decode cc_k_init 31 = .ok (.aload_n 0, 1) := by decide +kernel
theorem d_k_init_32 : decode cc_k_init 32 = .ok (.sipush 300, 3) := by decide +kernel
theorem d_k_init_35 : decode cc_k_init 35 = .ok (.newarray .int, 2) := by decide +kernel
theorem d_k_init_37 : decode cc_k_init 37 = .ok (.putfield 21, 3) := by decide +kernel
theorem d_k_init_40 : decode cc_k_init 40 = .ok (.aload_n 0, 1) := by decide +kernel
theorem d_k_init_41 : decode cc_k_init 41 = .ok (.sipush 300, 3) := by decide +kernel
theorem d_k_init_44 : decode cc_k_init 44 = .ok (.newarray .int, 2) := by decide +kernel
theorem d_k_init_46 : decode cc_k_init 46 = .ok (.putfield 24, 3) := by decide +kernel
theorem d_k_init_49 : decode cc_k_init 49 = .ok (.aload_n 0, 1) := by decide +kernel
theorem d_k_init_50 : decode cc_k_init 50 = .ok (.bipush 6, 2) := by decide +kernel
theorem d_k_init_52 : decode cc_k_init 52 = .ok (.newarray .int, 2) := by decide +kernel
theorem d_k_init_54 : decode cc_k_init 54 = .ok (.putfield 27, 3) := by decide +kernel
theorem d_k_init_57 : decode cc_k_init 57 = .ok (.aload_n 0, 1) := by decide +kernel
theorem d_k_init_58 : decode cc_k_init 58 = .ok (.iconst 0, 1) := by decide +kernel
theorem d_k_init_59 : decode cc_k_init 59 = .ok (.putfield 30, 3) := by decide +kernel
theorem d_k_init_62 : decode cc_k_init 62 = .ok (.aload_n 0, 1) := by decide +kernel
theorem d_k_init_63 : decode cc_k_init 63 = .ok (.iconst 0, 1) := by decide +kernel
theorem d_k_init_64 : decode cc_k_init 64 = .ok (.putfield 34, 3) := by decide +kernel
theorem d_k_init_67 : decode cc_k_init 67 = .ok (.aload_n 0, 1) := by decide +kernel
theorem d_k_init_68 : decode cc_k_init 68 = .ok (.iconst 0, 1) := by decide +kernel
theorem d_k_init_69 : decode cc_k_init 69 = .ok (.putfield 37, 3) := by decide +kernel
theorem d_k_init_72 : decode cc_k_init 72 = .ok (.return_, 1) := by decide +kernel
theorem d_k_enter_0 : decode cc_k_enter 0 = .ok (.aload_n 0, 1) := by decide +kernel
theorem d_k_enter_1 : decode cc_k_enter 1 = .ok (.getfield 30, 3) := by decide +kernel
theorem d_k_enter_4 : decode cc_k_enter 4 = .ok (.sipush 300, 3) := by decide +kernel
theorem d_k_enter_7 : decode cc_k_enter 7 = .ok (.if_icmp .ge 13, 3) := by decide +kernel
theorem d_k_enter_10 : decode cc_k_enter 10 = .ok (.iload_n 1, 1) := by decide +kernel
theorem d_k_enter_11 : decode cc_k_enter 11 = .ok (.ifCond .lt 9, 3) := by decide +kernel
theorem d_k_enter_14 : decode cc_k_enter 14 = .ok (.iload_n 1, 1) := by decide +kernel
theorem d_k_enter_15 : decode cc_k_enter 15 = .ok (.bipush 6, 2) := by decide +kernel
theorem d_k_enter_17 : decode cc_k_enter 17 = .ok (.if_icmp .lt 4, 3) := by decide +kernel
theorem d_k_enter_20 : decode cc_k_enter 20 = .ok (.return_, 1) := by decide +kernel
theorem d_k_enter_21 : decode cc_k_enter 21 = .ok (.aload_n 0, 1) := by decide +kernel
theorem d_k_enter_22 : decode cc_k_enter 22 = .ok (.getfield 9, 3) := by decide +kernel
theorem d_k_enter_25 : decode cc_k_enter 25 = .ok (.aload_n 0, 1) := by decide +kernel
theorem d_k_enter_26 : decode cc_k_enter 26 = .ok (.getfield 30, 3) := by decide +kernel
theorem d_k_enter_29 : decode cc_k_enter 29 = .ok (.iload_n 1, 1) := by decide +kernel
theorem d_k_enter_30 : decode cc_k_enter 30 = .ok (.iastore, 1) := by decide +kernel
theorem d_k_enter_31 : decode cc_k_enter 31 = .ok (.aload_n 0, 1) := by decide +kernel
theorem d_k_enter_32 : decode cc_k_enter 32 = .ok (.getfield 15, 3) := by decide +kernel
theorem d_k_enter_35 : decode cc_k_enter 35 = .ok (.aload_n 0, 1) := by decide +kernel
theorem d_k_enter_36 : decode cc_k_enter 36 = .ok (.getfield 30, 3) := by decide +kernel
theorem d_k_enter_39 : decode cc_k_enter 39 = .ok (.iload_n 2, 1) := by decide +kernel
theorem d_k_enter_40 : decode cc_k_enter 40 = .ok (.iastore, 1) := by decide +kernel
theorem d_k_enter_41 : decode cc_k_enter 41 = .ok (.aload_n 0, 1) := by decide +kernel
theorem d_k_enter_42 : decode cc_k_enter 42 = .ok (.getfield 18, 3) := by decide +kernel
theorem d_k_enter_45 : decode cc_k_enter 45 = .ok (.aload_n 0, 1) := by decide +kernel
theorem d_k_enter_46 : decode cc_k_enter 46 = .ok (.getfield 30, 3) := by decide +kernel
theorem d_k_enter_49 : decode cc_k_enter 49 = .ok (.iload_n 3, 1) := by decide +kernel
theorem d_k_enter_50 : decode cc_k_enter 50 = .ok (.iastore, 1) := by decide +kernel
theorem d_k_enter_51 : decode cc_k_enter 51 = .ok (.aload_n 0, 1) := by decide +kernel
theorem d_k_enter_52 : decode cc_k_enter 52 = .ok (.getfield 21, 3) := by decide +kernel
theorem d_k_enter_55 : decode cc_k_enter 55 = .ok (.aload_n 0, 1) := by decide +kernel
theorem d_k_enter_56 : decode cc_k_enter 56 = .ok (.getfield 30, 3) := by decide +kernel
theorem d_k_enter_59 : decode cc_k_enter 59 = .ok (.iconst (-1), 1) := by decide +kernel
theorem d_k_enter_60 : decode cc_k_enter 60 = .ok (.iastore, 1) := by decide +kernel
theorem d_k_enter_61 : decode cc_k_enter 61 = .ok (.aload_n 0, 1) := by decide +kernel
theorem d_k_enter_62 : decode cc_k_enter 62 = .ok (.getfield 27, 3) := by decide +kernel
theorem d_k_enter_65 : decode cc_k_enter 65 = .ok (.iload_n 1, 1) := by decide +kernel
theorem d_k_enter_66 : decode cc_k_enter 66 = .ok (.dup2, 1) := by decide +kernel
theorem d_k_enter_67 : decode cc_k_enter 67 = .ok (.iaload, 1) := by decide +kernel
theorem d_k_enter_68 : decode cc_k_enter 68 = .ok (.iload_n 2, 1) := by decide +kernel
theorem d_k_enter_69 : decode cc_k_enter 69 = .ok (.iadd, 1) := by decide +kernel
theorem d_k_enter_70 : decode cc_k_enter 70 = .ok (.iastore, 1) := by decide +kernel
theorem d_k_enter_71 : decode cc_k_enter 71 = .ok (.iload_n 3, 1) := by decide +kernel
theorem d_k_enter_72 : decode cc_k_enter 72 = .ok (.iconst (-1), 1) := by decide +kernel
theorem d_k_enter_73 : decode cc_k_enter 73 = .ok (.if_icmp .ne 36, 3) := by decide +kernel
theorem d_k_enter_76 : decode cc_k_enter 76 = .ok (.aload_n 0, 1) := by decide +kernel
theorem d_k_enter_77 : decode cc_k_enter 77 = .ok (.getfield 34, 3) := by decide +kernel
theorem d_k_enter_80 : decode cc_k_enter 80 = .ok (.sipush 300, 3) := by decide +kernel
theorem d_k_enter_83 : decode cc_k_enter 83 = .ok (.if_icmp .ge 26, 3) := by decide +kernel
theorem d_k_enter_86 : decode cc_k_enter 86 = .ok (.aload_n 0, 1) := by decide +kernel
theorem d_k_enter_87 : decode cc_k_enter 87 = .ok (.getfield 24, 3) := by decide +kernel
theorem d_k_enter_90 : decode cc_k_enter 90 = .ok (.aload_n 0, 1) := by decide +kernel
theorem d_k_enter_91 : decode cc_k_enter 91 = .ok (.getfield 34, 3) := by decide +kernel
theorem d_k_enter_94 : decode cc_k_enter 94 = .ok (.aload_n 0, 1) := by decide +kernel
theorem d_k_enter_95 : decode cc_k_enter 95 = .ok (.getfield 30, 3) := by decide +kernel
theorem d_k_enter_98 : decode cc_k_enter 98 = .ok (.iastore, 1) := by decide +kernel
theorem d_k_enter_99 : decode cc_k_enter 99 = .ok (.aload_n 0, 1) := by decide +kernel
theorem d_k_enter_100 : decode cc_k_enter 100 = .ok (.dup, 1) := by decide +kernel
theorem d_k_enter_101 : decode cc_k_enter 101 = .ok (.getfield 34, 3) := by decide +kernel
theorem d_k_enter_104 : decode cc_k_enter 104 = .ok (.iconst 1, 1) := by decide +kernel
theorem d_k_enter_105 : decode cc_k_enter 105 = .ok (.iadd, 1) := by decide +kernel
theorem d_k_enter_106 : decode cc_k_enter 106 = .ok (.putfield 34, 3) := by decide +kernel
theorem d_k_enter_109 : decode cc_k_enter 109 = .ok (.aload_n 0, 1) := by decide +kernel
theorem d_k_enter_110 : decode cc_k_enter 110 = .ok (.dup, 1) := by decide +kernel
theorem d_k_enter_111 : decode cc_k_enter 111 = .ok (.getfield 30, 3) := by decide +kernel
theorem d_k_enter_114 : decode cc_k_enter 114 = .ok (.iconst 1, 1) := by decide +kernel
theorem d_k_enter_115 : decode cc_k_enter 115 = .ok (.iadd, 1) := by decide +kernel
theorem d_k_enter_116 : decode cc_k_enter 116 = .ok (.putfield 30, 3) := by decide +kernel
theorem d_k_enter_119 : decode cc_k_enter 119 = .ok (.return_, 1) := by decide +kernel
theorem d_k_tell_0 : decode cc_k_tell 0 = .ok (.iload_n 2, 1) := by decide +kernel
theorem d_k_tell_1 : decode cc_k_tell 1 = .ok (.tableswitch 54 0 2 #[27, 36, 45], 27) := by decide +kernel
theorem d_k_tell_28 : decode cc_k_tell 28 = .ok (.aload_n 0, 1) := by decide +kernel
theorem d_k_tell_29 : decode cc_k_tell 29 = .ok (.getfield 9, 3) := by decide +kernel
theorem d_k_tell_32 : decode cc_k_tell 32 = .ok (.iload_n 1, 1) := by decide +kernel
theorem d_k_tell_33 : decode cc_k_tell 33 = .ok (.invokestatic 40, 3) := by decide +kernel
theorem d_k_tell_36 : decode cc_k_tell 36 = .ok (.ireturn, 1) := by decide +kernel
theorem d_k_tell_37 : decode cc_k_tell 37 = .ok (.aload_n 0, 1) := by decide +kernel
theorem d_k_tell_38 : decode cc_k_tell 38 = .ok (.getfield 15, 3) := by decide +kernel
theorem d_k_tell_41 : decode cc_k_tell 41 = .ok (.iload_n 1, 1) := by decide +kernel
theorem d_k_tell_42 : decode cc_k_tell 42 = .ok (.invokestatic 40, 3) := by decide +kernel
theorem d_k_tell_45 : decode cc_k_tell 45 = .ok (.ireturn, 1) := by decide +kernel
theorem d_k_tell_46 : decode cc_k_tell 46 = .ok (.aload_n 0, 1) := by decide +kernel
theorem d_k_tell_47 : decode cc_k_tell 47 = .ok (.getfield 18, 3) := by decide +kernel
theorem d_k_tell_50 : decode cc_k_tell 50 = .ok (.iload_n 1, 1) := by decide +kernel
theorem d_k_tell_51 : decode cc_k_tell 51 = .ok (.invokestatic 40, 3) := by decide +kernel
theorem d_k_tell_54 : decode cc_k_tell 54 = .ok (.ireturn, 1) := by decide +kernel
theorem d_k_tell_55 : decode cc_k_tell 55 = .ok (.aload_n 0, 1) := by decide +kernel
theorem d_k_tell_56 : decode cc_k_tell 56 = .ok (.getfield 21, 3) := by decide +kernel
theorem d_k_tell_59 : decode cc_k_tell 59 = .ok (.iload_n 1, 1) := by decide +kernel
theorem d_k_tell_60 : decode cc_k_tell 60 = .ok (.invokestatic 40, 3) := by decide +kernel
theorem d_k_tell_63 : decode cc_k_tell 63 = .ok (.ireturn, 1) := by decide +kernel
theorem d_k_sumOf_0 : decode cc_k_sumOf 0 = .ok (.aload_n 0, 1) := by decide +kernel
theorem d_k_sumOf_1 : decode cc_k_sumOf 1 = .ok (.getfield 27, 3) := by decide +kernel
theorem d_k_sumOf_4 : decode cc_k_sumOf 4 = .ok (.iload_n 1, 1) := by decide +kernel
theorem d_k_sumOf_5 : decode cc_k_sumOf 5 = .ok (.invokestatic 40, 3) := by decide +kernel
theorem d_k_sumOf_8 : decode cc_k_sumOf 8 = .ok (.ireturn, 1) := by decide +kernel
theorem d_k_sideCut_0 : decode cc_k_sideCut 0 = .ok (.iload_n 1, 1) := by decide +kernel
theorem d_k_sideCut_1 : decode cc_k_sideCut 1 = .ok (.aload_n 0, 1) := by decide +kernel
theorem d_k_sideCut_2 : decode cc_k_sideCut 2 = .ok (.getfield 34, 3) := by decide +kernel
theorem d_k_sideCut_5 : decode cc_k_sideCut 5 = .ok (.if_icmp .ge 14, 3) := by decide +kernel
theorem d_k_sideCut_8 : decode cc_k_sideCut 8 = .ok (.aload_n 0, 1) := by decide +kernel
theorem d_k_sideCut_9 : decode cc_k_sideCut 9 = .ok (.getfield 24, 3) := by decide +kernel
theorem d_k_sideCut_12 : decode cc_k_sideCut 12 = .ok (.iload_n 1, 1) := by decide +kernel
theorem d_k_sideCut_13 : decode cc_k_sideCut 13 = .ok (.invokestatic 40, 3) := by decide +kernel
theorem d_k_sideCut_16 : decode cc_k_sideCut 16 = .ok (.goto 4, 3) := by decide +kernel
theorem d_k_sideCut_19 : decode cc_k_sideCut 19 = .ok (.iconst (-1), 1) := by decide +kernel
theorem d_k_sideCut_20 : decode cc_k_sideCut 20 = .ok (.ireturn, 1) := by decide +kernel
theorem d_k_isOnBed_0 : decode cc_k_isOnBed 0 = .ok (.aload_n 0, 1) := by decide +kernel
theorem d_k_isOnBed_1 : decode cc_k_isOnBed 1 = .ok (.getfield 9, 3) := by decide +kernel
theorem d_k_isOnBed_4 : decode cc_k_isOnBed 4 = .ok (.iload_n 1, 1) := by decide +kernel
theorem d_k_isOnBed_5 : decode cc_k_isOnBed 5 = .ok (.iaload, 1) := by decide +kernel
theorem d_k_isOnBed_6 : decode cc_k_isOnBed 6 = .ok (.iload_n 2, 1) := by decide +kernel
theorem d_k_isOnBed_7 : decode cc_k_isOnBed 7 = .ok (.if_icmp .ne 16, 3) := by decide +kernel
theorem d_k_isOnBed_10 : decode cc_k_isOnBed 10 = .ok (.aload_n 0, 1) := by decide +kernel
theorem d_k_isOnBed_11 : decode cc_k_isOnBed 11 = .ok (.getfield 18, 3) := by decide +kernel
theorem d_k_isOnBed_14 : decode cc_k_isOnBed 14 = .ok (.iload_n 1, 1) := by decide +kernel
theorem d_k_isOnBed_15 : decode cc_k_isOnBed 15 = .ok (.iaload, 1) := by decide +kernel
theorem d_k_isOnBed_16 : decode cc_k_isOnBed 16 = .ok (.ifCond .lt 7, 3) := by decide +kernel
theorem d_k_isOnBed_19 : decode cc_k_isOnBed 19 = .ok (.iconst 1, 1) := by decide +kernel
theorem d_k_isOnBed_20 : decode cc_k_isOnBed 20 = .ok (.goto 4, 3) := by decide +kernel
theorem d_k_isOnBed_23 : decode cc_k_isOnBed 23 = .ok (.iconst 0, 1) := by decide +kernel
theorem d_k_isOnBed_24 : decode cc_k_isOnBed 24 = .ok (.ireturn, 1) := by decide +kernel
theorem d_k_countOnBed_0 : decode cc_k_countOnBed 0 = .ok (.iconst 0, 1) := by decide +kernel
theorem d_k_countOnBed_1 : decode cc_k_countOnBed 1 = .ok (.istore_n 2, 1) := by decide +kernel
theorem d_k_countOnBed_2 : decode cc_k_countOnBed 2 = .ok (.iconst 0, 1) := by decide +kernel
theorem d_k_countOnBed_3 : decode cc_k_countOnBed 3 = .ok (.istore_n 3, 1) := by decide +kernel
theorem d_k_countOnBed_4 : decode cc_k_countOnBed 4 = .ok (.iload_n 3, 1) := by decide +kernel
theorem d_k_countOnBed_5 : decode cc_k_countOnBed 5 = .ok (.aload_n 0, 1) := by decide +kernel
theorem d_k_countOnBed_6 : decode cc_k_countOnBed 6 = .ok (.getfield 30, 3) := by decide +kernel
theorem d_k_countOnBed_9 : decode cc_k_countOnBed 9 = .ok (.if_icmp .ge 21, 3) := by decide +kernel
theorem d_k_countOnBed_12 : decode cc_k_countOnBed 12 = .ok (.aload_n 0, 1) := by decide +kernel
theorem d_k_countOnBed_13 : decode cc_k_countOnBed 13 = .ok (.iload_n 3, 1) := by decide +kernel
theorem d_k_countOnBed_14 : decode cc_k_countOnBed 14 = .ok (.iload_n 1, 1) := by decide +kernel
theorem d_k_countOnBed_15 : decode cc_k_countOnBed 15 = .ok (.invokevirtual 44, 3) := by decide +kernel
theorem d_k_countOnBed_18 : decode cc_k_countOnBed 18 = .ok (.ifCond .eq 6, 3) := by decide +kernel
theorem d_k_countOnBed_21 : decode cc_k_countOnBed 21 = .ok (.iinc 2 1, 3) := by decide +kernel
theorem d_k_countOnBed_24 : decode cc_k_countOnBed 24 = .ok (.iinc 3 1, 3) := by decide +kernel
theorem d_k_countOnBed_27 : decode cc_k_countOnBed 27 = .ok (.goto (-23), 3) := by decide +kernel
theorem d_k_countOnBed_30 : decode cc_k_countOnBed 30 = .ok (.iload_n 2, 1) := by decide +kernel
theorem d_k_countOnBed_31 : decode cc_k_countOnBed 31 = .ok (.ireturn, 1) := by decide +kernel
theorem d_k_takeBundle_0 : decode cc_k_takeBundle 0 = .ok (.iconst 0, 1) := by decide +kernel
theorem d_k_takeBundle_1 : decode cc_k_takeBundle 1 = .ok (.istore 4, 2) := by decide +kernel
theorem d_k_takeBundle_3 : decode cc_k_takeBundle 3 = .ok (.iconst 0, 1) := by decide +kernel
theorem d_k_takeBundle_4 : decode cc_k_takeBundle 4 = .ok (.istore 5, 2) := by decide +kernel
theorem d_k_takeBundle_6 : decode cc_k_takeBundle 6 = .ok (.iload 5, 2) := by decide +kernel
theorem d_k_takeBundle_8 : decode cc_k_takeBundle 8 = .ok (.aload_n 0, 1) := by decide +kernel
theorem d_k_takeBundle_9 : decode cc_k_takeBundle 9 = .ok (.getfield 30, 3) := by decide +kernel
theorem d_k_takeBundle_12 : decode cc_k_takeBundle 12 = .ok (.if_icmp .ge 59, 3) := by decide +kernel
theorem d_k_takeBundle_15 : decode cc_k_takeBundle 15 = .ok (.iload 4, 2) := by decide +kernel
theorem d_k_takeBundle_17 : decode cc_k_takeBundle 17 = .ok (.iload_n 2, 1) := by decide +kernel
theorem d_k_takeBundle_18 : decode cc_k_takeBundle 18 = .ok (.if_icmp .ge 53, 3) := by decide +kernel
theorem d_k_takeBundle_21 : decode cc_k_takeBundle 21 = .ok (.aload_n 0, 1) := by decide +kernel
theorem d_k_takeBundle_22 : decode cc_k_takeBundle 22 = .ok (.iload 5, 2) := by decide +kernel
theorem d_k_takeBundle_24 : decode cc_k_takeBundle 24 = .ok (.iload_n 1, 1) := by decide +kernel
theorem d_k_takeBundle_25 : decode cc_k_takeBundle 25 = .ok (.invokevirtual 44, 3) := by decide +kernel
theorem d_k_takeBundle_28 : decode cc_k_takeBundle 28 = .ok (.ifCond .eq 37, 3) := by decide +kernel
theorem d_k_takeBundle_31 : decode cc_k_takeBundle 31 = .ok (.aload_n 3, 1) := by decide +kernel
theorem d_k_takeBundle_32 : decode cc_k_takeBundle 32 = .ok (.aload_n 0, 1) := by decide +kernel
theorem d_k_takeBundle_33 : decode cc_k_takeBundle 33 = .ok (.getfield 18, 3) := by decide +kernel
theorem d_k_takeBundle_36 : decode cc_k_takeBundle 36 = .ok (.iload 5, 2) := by decide +kernel
theorem d_k_takeBundle_38 : decode cc_k_takeBundle 38 = .ok (.iaload, 1) := by decide +kernel
theorem d_k_takeBundle_39 : decode cc_k_takeBundle 39 = .ok (.invokevirtual 48, 3) := by decide +kernel
theorem d_k_takeBundle_42 : decode cc_k_takeBundle 42 = .ok (.aload_n 0, 1) := by decide +kernel
theorem d_k_takeBundle_43 : decode cc_k_takeBundle 43 = .ok (.getfield 18, 3) := by decide +kernel
theorem d_k_takeBundle_46 : decode cc_k_takeBundle 46 = .ok (.iload 5, 2) := by decide +kernel
theorem d_k_takeBundle_48 : decode cc_k_takeBundle 48 = .ok (.bipush (-2), 2) := by decide +kernel
theorem d_k_takeBundle_50 : decode cc_k_takeBundle 50 = .ok (.iastore, 1) := by decide +kernel
theorem d_k_takeBundle_51 : decode cc_k_takeBundle 51 = .ok (.aload_n 0, 1) := by decide +kernel
theorem d_k_takeBundle_52 : decode cc_k_takeBundle 52 = .ok (.getfield 21, 3) := by decide +kernel
theorem d_k_takeBundle_55 : decode cc_k_takeBundle 55 = .ok (.iload 5, 2) := by decide +kernel
theorem d_k_takeBundle_57 : decode cc_k_takeBundle 57 = .ok (.aload_n 0, 1) := by decide +kernel
theorem d_k_takeBundle_58 : decode cc_k_takeBundle 58 = .ok (.getfield 37, 3) := by decide +kernel
theorem d_k_takeBundle_61 : decode cc_k_takeBundle 61 = .ok (.iastore, 1) := by decide +kernel
theorem d_k_takeBundle_62 : decode cc_k_takeBundle 62 = .ok (.iinc 4 1, 3) := by decide +kernel
theorem d_k_takeBundle_65 : decode cc_k_takeBundle 65 = .ok (.iinc 5 1, 3) := by decide +kernel
theorem d_k_takeBundle_68 : decode cc_k_takeBundle 68 = .ok (.goto (-62), 3) := by decide +kernel
theorem d_k_takeBundle_71 : decode cc_k_takeBundle 71 = .ok (.aload_n 0, 1) := by decide +kernel
theorem d_k_takeBundle_72 : decode cc_k_takeBundle 72 = .ok (.dup, 1) := by decide +kernel
theorem d_k_takeBundle_73 : decode cc_k_takeBundle 73 = .ok (.getfield 37, 3) := by decide +kernel
theorem d_k_takeBundle_76 : decode cc_k_takeBundle 76 = .ok (.iconst 1, 1) := by decide +kernel
theorem d_k_takeBundle_77 : decode cc_k_takeBundle 77 = .ok (.iadd, 1) := by decide +kernel
theorem d_k_takeBundle_78 : decode cc_k_takeBundle 78 = .ok (.putfield 37, 3) := by decide +kernel
theorem d_k_takeBundle_81 : decode cc_k_takeBundle 81 = .ok (.aload_n 0, 1) := by decide +kernel
theorem d_k_takeBundle_82 : decode cc_k_takeBundle 82 = .ok (.getfield 37, 3) := by decide +kernel
theorem d_k_takeBundle_85 : decode cc_k_takeBundle 85 = .ok (.ireturn, 1) := by decide +kernel
theorem d_x_init_0 : decode cc_x_init 0 = .ok (.aload_n 0, 1) := by decide +kernel
theorem d_x_init_1 : decode cc_x_init 1 = .ok (.invokespecial 1, 3) := by decide +kernel
theorem d_x_init_4 : decode cc_x_init 4 = .ok (.aload_n 0, 1) := by decide +kernel
theorem d_x_init_5 : decode cc_x_init 5 = .ok (.new 7, 3) := by decide +kernel
theorem d_x_init_8 : decode cc_x_init 8 = .ok (.dup, 1) := by decide +kernel
theorem d_x_init_9 : decode cc_x_init 9 = .ok (.invokespecial 9, 3) := by decide +kernel
theorem d_x_init_12 : decode cc_x_init 12 = .ok (.putfield 10, 3) := by decide +kernel
theorem d_x_init_15 : decode cc_x_init 15 = .ok (.aload_n 0, 1) := by decide +kernel
theorem d_x_init_16 : decode cc_x_init 16 = .ok (.new 16, 3) := by decide +kernel
theorem d_x_init_19 : decode cc_x_init 19 = .ok (.dup, 1) := by decide +kernel
theorem d_x_init_20 : decode cc_x_init 20 = .ok (.invokespecial 18, 3) := by decide +kernel
theorem d_x_init_23 : decode cc_x_init 23 = .ok (.putfield 19, 3) := by decide +kernel
theorem d_x_init_26 : decode cc_x_init 26 = .ok (.aload_n 0, 1) := by decide +kernel
theorem d_x_init_27 : decode cc_x_init 27 = .ok (.new 23, 3) := by decide +kernel
theorem d_x_init_30 : decode cc_x_init 30 = .ok (.dup, 1) := by decide +kernel
theorem d_x_init_31 : decode cc_x_init 31 = .ok (.invokespecial 25, 3) := by decide +kernel
theorem d_x_init_34 : decode cc_x_init 34 = .ok (.putfield 26, 3) := by decide +kernel
theorem d_x_init_37 : decode cc_x_init 37 = .ok (.aload_n 0, 1) := by decide +kernel
theorem d_x_init_38 : decode cc_x_init 38 = .ok (.new 30, 3) := by decide +kernel
theorem d_x_init_41 : decode cc_x_init 41 = .ok (.dup, 1) := by decide +kernel
theorem d_x_init_42 : decode cc_x_init 42 = .ok (.invokespecial 32, 3) := by decide +kernel
theorem d_x_init_45 : decode cc_x_init 45 = .ok (.putfield 33, 3) := by decide +kernel
theorem d_x_init_48 : decode cc_x_init 48 = .ok (.return_, 1) := by decide +kernel
theorem d_x_want_0 : decode cc_x_want 0 = .ok (.iload_n 1, 1) := by decide +kernel
theorem d_x_want_1 : decode cc_x_want 1 = .ok (.iconst 1, 1) := by decide +kernel
theorem d_x_want_2 : decode cc_x_want 2 = .ok (.sipush 200, 3) := by decide +kernel
theorem d_x_want_5 : decode cc_x_want 5 = .ok (.invokestatic 37, 3) := by decide +kernel
theorem d_x_want_8 : decode cc_x_want 8 = .ok (.iload_n 2, 1) := by decide +kernel
theorem d_x_want_9 : decode cc_x_want 9 = .ok (.iload_n 1, 1) := by decide +kernel
theorem d_x_want_10 : decode cc_x_want 10 = .ok (.sipush 200, 3) := by decide +kernel
theorem d_x_want_13 : decode cc_x_want 13 = .ok (.invokestatic 37, 3) := by decide +kernel
theorem d_x_want_16 : decode cc_x_want 16 = .ok (.iload_n 3, 1) := by decide +kernel
theorem d_x_want_17 : decode cc_x_want 17 = .ok (.iconst 0, 1) := by decide +kernel
theorem d_x_want_18 : decode cc_x_want 18 = .ok (.bipush 9, 2) := by decide +kernel
theorem d_x_want_20 : decode cc_x_want 20 = .ok (.invokestatic 37, 3) := by decide +kernel
theorem d_x_want_23 : decode cc_x_want 23 = .ok (.aload_n 0, 1) := by decide +kernel
theorem d_x_want_24 : decode cc_x_want 24 = .ok (.getfield 10, 3) := by decide +kernel
theorem d_x_want_27 : decode cc_x_want 27 = .ok (.iload_n 1, 1) := by decide +kernel
theorem d_x_want_28 : decode cc_x_want 28 = .ok (.iload_n 2, 1) := by decide +kernel
theorem d_x_want_29 : decode cc_x_want 29 = .ok (.iload_n 3, 1) := by decide +kernel
theorem d_x_want_30 : decode cc_x_want 30 = .ok (.invokevirtual 41, 3) := by decide +kernel
theorem d_x_want_33 : decode cc_x_want 33 = .ok (.istore 4, 2) := by decide +kernel
theorem d_x_want_35 : decode cc_x_want 35 = .ok (.aload_n 0, 1) := by decide +kernel
theorem d_x_want_36 : decode cc_x_want 36 = .ok (.getfield 19, 3) := by decide +kernel
theorem d_x_want_39 : decode cc_x_want 39 = .ok (.aload_n 0, 1) := by decide +kernel
theorem d_x_want_40 : decode cc_x_want 40 = .ok (.getfield 10, 3) := by decide +kernel
theorem d_x_want_43 : decode cc_x_want 43 = .ok (.invokevirtual 45, 3) := by decide +kernel
theorem d_x_want_46 : decode cc_x_want 46 = .ok (.iload 4, 2) := by decide +kernel
theorem d_x_want_48 : decode cc_x_want 48 = .ok (.ireturn, 1) := by decide +kernel
theorem d_x_bar_0 : decode cc_x_bar 0 = .ok (.iload_n 1, 1) := by decide +kernel
theorem d_x_bar_1 : decode cc_x_bar 1 = .ok (.iconst 1, 1) := by decide +kernel
theorem d_x_bar_2 : decode cc_x_bar 2 = .ok (.sipush 200, 3) := by decide +kernel
theorem d_x_bar_5 : decode cc_x_bar 5 = .ok (.invokestatic 37, 3) := by decide +kernel
theorem d_x_bar_8 : decode cc_x_bar 8 = .ok (.iload_n 2, 1) := by decide +kernel
theorem d_x_bar_9 : decode cc_x_bar 9 = .ok (.iconst 0, 1) := by decide +kernel
theorem d_x_bar_10 : decode cc_x_bar 10 = .ok (.bipush 50, 2) := by decide +kernel
theorem d_x_bar_12 : decode cc_x_bar 12 = .ok (.invokestatic 37, 3) := by decide +kernel
theorem d_x_bar_15 : decode cc_x_bar 15 = .ok (.aload_n 0, 1) := by decide +kernel
theorem d_x_bar_16 : decode cc_x_bar 16 = .ok (.getfield 19, 3) := by decide +kernel
theorem d_x_bar_19 : decode cc_x_bar 19 = .ok (.iload_n 1, 1) := by decide +kernel
theorem d_x_bar_20 : decode cc_x_bar 20 = .ok (.iload_n 2, 1) := by decide +kernel
theorem d_x_bar_21 : decode cc_x_bar 21 = .ok (.invokevirtual 49, 3) := by decide +kernel
theorem d_x_bar_24 : decode cc_x_bar 24 = .ok (.aload_n 0, 1) := by decide +kernel
theorem d_x_bar_25 : decode cc_x_bar 25 = .ok (.getfield 19, 3) := by decide +kernel
theorem d_x_bar_28 : decode cc_x_bar 28 = .ok (.aload_n 0, 1) := by decide +kernel
theorem d_x_bar_29 : decode cc_x_bar 29 = .ok (.getfield 10, 3) := by decide +kernel
theorem d_x_bar_32 : decode cc_x_bar 32 = .ok (.invokevirtual 45, 3) := by decide +kernel
theorem d_x_bar_35 : decode cc_x_bar 35 = .ok (.return_, 1) := by decide +kernel
theorem d_x_crop_0 : decode cc_x_crop 0 = .ok (.iload_n 1, 1) := by decide +kernel
theorem d_x_crop_1 : decode cc_x_crop 1 = .ok (.iconst 0, 1) := by decide +kernel
theorem d_x_crop_2 : decode cc_x_crop 2 = .ok (.bipush 100, 2) := by decide +kernel
theorem d_x_crop_4 : decode cc_x_crop 4 = .ok (.invokestatic 37, 3) := by decide +kernel
theorem d_x_crop_7 : decode cc_x_crop 7 = .ok (.iload_n 2, 1) := by decide +kernel
theorem d_x_crop_8 : decode cc_x_crop 8 = .ok (.iconst 0, 1) := by decide +kernel
theorem d_x_crop_9 : decode cc_x_crop 9 = .ok (.bipush 100, 2) := by decide +kernel
theorem d_x_crop_11 : decode cc_x_crop 11 = .ok (.invokestatic 37, 3) := by decide +kernel
theorem d_x_crop_14 : decode cc_x_crop 14 = .ok (.aload_n 0, 1) := by decide +kernel
theorem d_x_crop_15 : decode cc_x_crop 15 = .ok (.getfield 19, 3) := by decide +kernel
theorem d_x_crop_18 : decode cc_x_crop 18 = .ok (.iload_n 1, 1) := by decide +kernel
theorem d_x_crop_19 : decode cc_x_crop 19 = .ok (.iload_n 2, 1) := by decide +kernel
theorem d_x_crop_20 : decode cc_x_crop 20 = .ok (.invokevirtual 53, 3) := by decide +kernel
theorem d_x_crop_23 : decode cc_x_crop 23 = .ok (.aload_n 0, 1) := by decide +kernel
theorem d_x_crop_24 : decode cc_x_crop 24 = .ok (.getfield 19, 3) := by decide +kernel
theorem d_x_crop_27 : decode cc_x_crop 27 = .ok (.aload_n 0, 1) := by decide +kernel
theorem d_x_crop_28 : decode cc_x_crop 28 = .ok (.getfield 10, 3) := by decide +kernel
theorem d_x_crop_31 : decode cc_x_crop 31 = .ok (.invokevirtual 45, 3) := by decide +kernel
theorem d_x_crop_34 : decode cc_x_crop 34 = .ok (.return_, 1) := by decide +kernel
theorem d_x_known_0 : decode cc_x_known 0 = .ok (.iload_n 1, 1) := by decide +kernel
theorem d_x_known_1 : decode cc_x_known 1 = .ok (.iconst 1, 1) := by decide +kernel
theorem d_x_known_2 : decode cc_x_known 2 = .ok (.sipush 200, 3) := by decide +kernel
theorem d_x_known_5 : decode cc_x_known 5 = .ok (.invokestatic 37, 3) := by decide +kernel
theorem d_x_known_8 : decode cc_x_known 8 = .ok (.aload_n 0, 1) := by decide +kernel
theorem d_x_known_9 : decode cc_x_known 9 = .ok (.getfield 19, 3) := by decide +kernel
theorem d_x_known_12 : decode cc_x_known 12 = .ok (.iload_n 1, 1) := by decide +kernel
theorem d_x_known_13 : decode cc_x_known 13 = .ok (.invokevirtual 56, 3) := by decide +kernel
theorem d_x_known_16 : decode cc_x_known 16 = .ok (.aload_n 0, 1) := by decide +kernel
theorem d_x_known_17 : decode cc_x_known 17 = .ok (.getfield 19, 3) := by decide +kernel
theorem d_x_known_20 : decode cc_x_known 20 = .ok (.aload_n 0, 1) := by decide +kernel
theorem d_x_known_21 : decode cc_x_known 21 = .ok (.getfield 10, 3) := by decide +kernel
theorem d_x_known_24 : decode cc_x_known 24 = .ok (.invokevirtual 45, 3) := by decide +kernel
theorem d_x_known_27 : decode cc_x_known 27 = .ok (.return_, 1) := by decide +kernel
theorem d_x_pieces_0 : decode cc_x_pieces 0 = .ok (.aload_n 0, 1) := by decide +kernel
theorem d_x_pieces_1 : decode cc_x_pieces 1 = .ok (.getfield 19, 3) := by decide +kernel
theorem d_x_pieces_4 : decode cc_x_pieces 4 = .ok (.getfield 60, 3) := by decide +kernel
theorem d_x_pieces_7 : decode cc_x_pieces 7 = .ok (.ireturn, 1) := by decide +kernel
theorem d_x_piece_0 : decode cc_x_piece 0 = .ok (.iload_n 1, 1) := by decide +kernel
theorem d_x_piece_1 : decode cc_x_piece 1 = .ok (.aload_n 0, 1) := by decide +kernel
theorem d_x_piece_2 : decode cc_x_piece 2 = .ok (.getfield 19, 3) := by decide +kernel
theorem d_x_piece_5 : decode cc_x_piece 5 = .ok (.getfield 60, 3) := by decide +kernel
theorem d_x_piece_8 : decode cc_x_piece 8 = .ok (.invokestatic 64, 3) := by decide +kernel
theorem d_x_piece_11 : decode cc_x_piece 11 = .ok (.iload_n 2, 1) := by decide +kernel
theorem d_x_piece_12 : decode cc_x_piece 12 = .ok (.iconst 4, 1) := by decide +kernel
theorem d_x_piece_13 : decode cc_x_piece 13 = .ok (.invokestatic 64, 3) := by decide +kernel
theorem d_x_piece_16 : decode cc_x_piece 16 = .ok (.iload_n 2, 1) := by decide +kernel
theorem d_x_piece_17 : decode cc_x_piece 17 = .ok (.tableswitch 54 0 2 #[27, 36, 45], 27) := by decide +kernel
theorem d_x_piece_44 : decode cc_x_piece 44 = .ok (.aload_n 0, 1) := by decide +kernel
theorem d_x_piece_45 : decode cc_x_piece 45 = .ok (.getfield 19, 3) := by decide +kernel
theorem d_x_piece_48 : decode cc_x_piece 48 = .ok (.iload_n 1, 1) := by decide +kernel
theorem d_x_piece_49 : decode cc_x_piece 49 = .ok (.invokevirtual 67, 3) := by decide +kernel
theorem d_x_piece_52 : decode cc_x_piece 52 = .ok (.ireturn, 1) := by decide +kernel
theorem d_x_piece_53 : decode cc_x_piece 53 = .ok (.aload_n 0, 1) := by decide +kernel
theorem d_x_piece_54 : decode cc_x_piece 54 = .ok (.getfield 19, 3) := by decide +kernel
theorem d_x_piece_57 : decode cc_x_piece 57 = .ok (.iload_n 1, 1) := by decide +kernel
theorem d_x_piece_58 : decode cc_x_piece 58 = .ok (.invokevirtual 71, 3) := by decide +kernel
theorem d_x_piece_61 : decode cc_x_piece 61 = .ok (.ireturn, 1) := by decide +kernel
theorem d_x_piece_62 : decode cc_x_piece 62 = .ok (.aload_n 0, 1) := by decide +kernel
theorem d_x_piece_63 : decode cc_x_piece 63 = .ok (.getfield 19, 3) := by decide +kernel
theorem d_x_piece_66 : decode cc_x_piece 66 = .ok (.iload_n 1, 1) := by decide +kernel
theorem d_x_piece_67 : decode cc_x_piece 67 = .ok (.invokevirtual 74, 3) := by decide +kernel
theorem d_x_piece_70 : decode cc_x_piece 70 = .ok (.ireturn, 1) := by decide +kernel
theorem d_x_piece_71 : decode cc_x_piece 71 = .ok (.iload_n 1, 1) := by decide +kernel
theorem d_x_piece_72 : decode cc_x_piece 72 = .ok (.aload_n 0, 1) := by decide +kernel
theorem d_x_piece_73 : decode cc_x_piece 73 = .ok (.getfield 19, 3) := by decide +kernel
theorem d_x_piece_76 : decode cc_x_piece 76 = .ok (.getfield 77, 3) := by decide +kernel
theorem d_x_piece_79 : decode cc_x_piece 79 = .ok (.if_icmp .ge 7, 3) := by decide +kernel
theorem d_x_piece_82 : decode cc_x_piece 82 = .ok (.iconst 1, 1) := by decide +kernel
theorem d_x_piece_83 : decode cc_x_piece 83 = .ok (.goto 4, 3) := by decide +kernel
theorem d_x_piece_86 : decode cc_x_piece 86 = .ok (.iconst 0, 1) := by decide +kernel
theorem d_x_piece_87 : decode cc_x_piece 87 = .ok (.ireturn, 1) := by decide +kernel
theorem d_x_loss_0 : decode cc_x_loss 0 = .ok (.aload_n 0, 1) := by decide +kernel
theorem d_x_loss_1 : decode cc_x_loss 1 = .ok (.getfield 19, 3) := by decide +kernel
theorem d_x_loss_4 : decode cc_x_loss 4 = .ok (.getfield 80, 3) := by decide +kernel
theorem d_x_loss_7 : decode cc_x_loss 7 = .ok (.ireturn, 1) := by decide +kernel
theorem d_x_cut_0 : decode cc_x_cut 0 = .ok (.aload_n 0, 1) := by decide +kernel
theorem d_x_cut_1 : decode cc_x_cut 1 = .ok (.getfield 19, 3) := by decide +kernel
theorem d_x_cut_4 : decode cc_x_cut 4 = .ok (.getfield 77, 3) := by decide +kernel
theorem d_x_cut_7 : decode cc_x_cut 7 = .ok (.istore_n 1, 1) := by decide +kernel
theorem d_x_cut_8 : decode cc_x_cut 8 = .ok (.iload_n 1, 1) := by decide +kernel
theorem d_x_cut_9 : decode cc_x_cut 9 = .ok (.aload_n 0, 1) := by decide +kernel
theorem d_x_cut_10 : decode cc_x_cut 10 = .ok (.getfield 19, 3) := by decide +kernel
theorem d_x_cut_13 : decode cc_x_cut 13 = .ok (.getfield 60, 3) := by decide +kernel
theorem d_x_cut_16 : decode cc_x_cut 16 = .ok (.if_icmp .lt 13, 3) := by decide +kernel
theorem d_x_cut_19 : decode cc_x_cut 19 = .ok (.new 83, 3) := by decide +kernel
theorem d_x_cut_22 : decode cc_x_cut 22 = .ok (.dup, 1) := by decide +kernel
theorem d_x_cut_23 : decode cc_x_cut 23 = .ok (.ldc 85, 2) := by decide +kernel
theorem d_x_cut_25 : decode cc_x_cut 25 = .ok (.invokespecial 87, 3) := by decide +kernel
theorem d_x_cut_28 : decode cc_x_cut 28 = .ok (.athrow, 1) := by decide +kernel
theorem d_x_cut_29 : decode cc_x_cut 29 = .ok (.aload_n 0, 1) := by decide +kernel
theorem d_x_cut_30 : decode cc_x_cut 30 = .ok (.getfield 26, 3) := by decide +kernel
theorem d_x_cut_33 : decode cc_x_cut 33 = .ok (.getfield 90, 3) := by decide +kernel
theorem d_x_cut_36 : decode cc_x_cut 36 = .ok (.sipush 300, 3) := by decide +kernel
theorem d_x_cut_39 : decode cc_x_cut 39 = .ok (.if_icmp .lt 13, 3) := by decide +kernel
theorem d_x_cut_42 : decode cc_x_cut 42 = .ok (.new 91, 3) := by decide +kernel
theorem d_x_cut_45 : decode cc_x_cut 45 = .ok (.dup, 1) := by decide +kernel
theorem d_x_cut_46 : decode cc_x_cut 46 = .ok (.ldc 93, 2) := by decide +kernel
theorem d_x_cut_48 : decode cc_x_cut 48 = .ok (.invokespecial 95, 3) := by decide +kernel
theorem d_x_cut_51 : decode cc_x_cut 51 = .ok (.athrow, 1) := by decide +kernel
theorem d_x_cut_52 : decode cc_x_cut 52 = .ok (.aload_n 0, 1) := by decide +kernel
theorem d_x_cut_53 : decode cc_x_cut 53 = .ok (.getfield 19, 3) := by decide +kernel
theorem d_x_cut_56 : decode cc_x_cut 56 = .ok (.iload_n 1, 1) := by decide +kernel
theorem d_x_cut_57 : decode cc_x_cut 57 = .ok (.invokevirtual 74, 3) := by decide +kernel
theorem d_x_cut_60 : decode cc_x_cut 60 = .ok (.istore_n 2, 1) := by decide +kernel
theorem d_x_cut_61 : decode cc_x_cut 61 = .ok (.aload_n 0, 1) := by decide +kernel
theorem d_x_cut_62 : decode cc_x_cut 62 = .ok (.getfield 33, 3) := by decide +kernel
theorem d_x_cut_65 : decode cc_x_cut 65 = .ok (.aload_n 0, 1) := by decide +kernel
theorem d_x_cut_66 : decode cc_x_cut 66 = .ok (.getfield 26, 3) := by decide +kernel
theorem d_x_cut_69 : decode cc_x_cut 69 = .ok (.getfield 90, 3) := by decide +kernel
theorem d_x_cut_72 : decode cc_x_cut 72 = .ok (.iload_n 2, 1) := by decide +kernel
theorem d_x_cut_73 : decode cc_x_cut 73 = .ok (.invokevirtual 96, 3) := by decide +kernel
theorem d_x_cut_76 : decode cc_x_cut 76 = .ok (.istore_n 3, 1) := by decide +kernel
theorem d_x_cut_77 : decode cc_x_cut 77 = .ok (.aload_n 0, 1) := by decide +kernel
theorem d_x_cut_78 : decode cc_x_cut 78 = .ok (.getfield 26, 3) := by decide +kernel
theorem d_x_cut_81 : decode cc_x_cut 81 = .ok (.aload_n 0, 1) := by decide +kernel
theorem d_x_cut_82 : decode cc_x_cut 82 = .ok (.getfield 19, 3) := by decide +kernel
theorem d_x_cut_85 : decode cc_x_cut 85 = .ok (.iload_n 1, 1) := by decide +kernel
theorem d_x_cut_86 : decode cc_x_cut 86 = .ok (.invokevirtual 67, 3) := by decide +kernel
theorem d_x_cut_89 : decode cc_x_cut 89 = .ok (.iload_n 2, 1) := by decide +kernel
theorem d_x_cut_90 : decode cc_x_cut 90 = .ok (.iload_n 3, 1) := by decide +kernel
theorem d_x_cut_91 : decode cc_x_cut 91 = .ok (.invokevirtual 100, 3) := by decide +kernel
theorem d_x_cut_94 : decode cc_x_cut 94 = .ok (.aload_n 0, 1) := by decide +kernel
theorem d_x_cut_95 : decode cc_x_cut 95 = .ok (.getfield 19, 3) := by decide +kernel
theorem d_x_cut_98 : decode cc_x_cut 98 = .ok (.invokevirtual 103, 3) := by decide +kernel
theorem d_x_cut_101 : decode cc_x_cut 101 = .ok (.iload_n 3, 1) := by decide +kernel
theorem d_x_cut_102 : decode cc_x_cut 102 = .ok (.ireturn, 1) := by decide +kernel
theorem d_x_bed_0 : decode cc_x_bed 0 = .ok (.aload_n 0, 1) := by decide +kernel
theorem d_x_bed_1 : decode cc_x_bed 1 = .ok (.getfield 33, 3) := by decide +kernel
theorem d_x_bed_4 : decode cc_x_bed 4 = .ok (.getfield 106, 3) := by decide +kernel
theorem d_x_bed_7 : decode cc_x_bed 7 = .ok (.ifCond .le 13, 3) := by decide +kernel
theorem d_x_bed_10 : decode cc_x_bed 10 = .ok (.new 83, 3) := by decide +kernel
theorem d_x_bed_13 : decode cc_x_bed 13 = .ok (.dup, 1) := by decide +kernel
theorem d_x_bed_14 : decode cc_x_bed 14 = .ok (.ldc 109, 2) := by decide +kernel
theorem d_x_bed_16 : decode cc_x_bed 16 = .ok (.invokespecial 87, 3) := by decide +kernel
theorem d_x_bed_19 : decode cc_x_bed 19 = .ok (.athrow, 1) := by decide +kernel
theorem d_x_bed_20 : decode cc_x_bed 20 = .ok (.iload_n 1, 1) := by decide +kernel
theorem d_x_bed_21 : decode cc_x_bed 21 = .ok (.iconst 1, 1) := by decide +kernel
theorem d_x_bed_22 : decode cc_x_bed 22 = .ok (.bipush 20, 2) := by decide +kernel
theorem d_x_bed_24 : decode cc_x_bed 24 = .ok (.invokestatic 37, 3) := by decide +kernel
theorem d_x_bed_27 : decode cc_x_bed 27 = .ok (.iload_n 2, 1) := by decide +kernel
theorem d_x_bed_28 : decode cc_x_bed 28 = .ok (.iconst 1, 1) := by decide +kernel
theorem d_x_bed_29 : decode cc_x_bed 29 = .ok (.sipush 200, 3) := by decide +kernel
theorem d_x_bed_32 : decode cc_x_bed 32 = .ok (.invokestatic 37, 3) := by decide +kernel
theorem d_x_bed_35 : decode cc_x_bed 35 = .ok (.aload_n 0, 1) := by decide +kernel
theorem d_x_bed_36 : decode cc_x_bed 36 = .ok (.getfield 33, 3) := by decide +kernel
theorem d_x_bed_39 : decode cc_x_bed 39 = .ok (.iload_n 1, 1) := by decide +kernel
theorem d_x_bed_40 : decode cc_x_bed 40 = .ok (.putfield 111, 3) := by decide +kernel
theorem d_x_bed_43 : decode cc_x_bed 43 = .ok (.aload_n 0, 1) := by decide +kernel
theorem d_x_bed_44 : decode cc_x_bed 44 = .ok (.getfield 33, 3) := by decide +kernel
theorem d_x_bed_47 : decode cc_x_bed 47 = .ok (.iload_n 2, 1) := by decide +kernel
theorem d_x_bed_48 : decode cc_x_bed 48 = .ok (.putfield 114, 3) := by decide +kernel
theorem d_x_bed_51 : decode cc_x_bed 51 = .ok (.return_, 1) := by decide +kernel
theorem d_x_at_0 : decode cc_x_at 0 = .ok (.iload_n 1, 1) := by decide +kernel
theorem d_x_at_1 : decode cc_x_at 1 = .ok (.aload_n 0, 1) := by decide +kernel
theorem d_x_at_2 : decode cc_x_at 2 = .ok (.getfield 33, 3) := by decide +kernel
theorem d_x_at_5 : decode cc_x_at 5 = .ok (.getfield 111, 3) := by decide +kernel
theorem d_x_at_8 : decode cc_x_at 8 = .ok (.invokestatic 64, 3) := by decide +kernel
theorem d_x_at_11 : decode cc_x_at 11 = .ok (.aload_n 0, 1) := by decide +kernel
theorem d_x_at_12 : decode cc_x_at 12 = .ok (.getfield 33, 3) := by decide +kernel
theorem d_x_at_15 : decode cc_x_at 15 = .ok (.iload_n 1, 1) := by decide +kernel
theorem d_x_at_16 : decode cc_x_at 16 = .ok (.invokevirtual 117, 3) := by decide +kernel
theorem d_x_at_19 : decode cc_x_at 19 = .ok (.ireturn, 1) := by decide +kernel
theorem d_x_bundle_0 : decode cc_x_bundle 0 = .ok (.iload_n 1, 1) := by decide +kernel
theorem d_x_bundle_1 : decode cc_x_bundle 1 = .ok (.aload_n 0, 1) := by decide +kernel
theorem d_x_bundle_2 : decode cc_x_bundle 2 = .ok (.getfield 10, 3) := by decide +kernel
theorem d_x_bundle_5 : decode cc_x_bundle 5 = .ok (.getfield 120, 3) := by decide +kernel
theorem d_x_bundle_8 : decode cc_x_bundle 8 = .ok (.invokestatic 64, 3) := by decide +kernel
theorem d_x_bundle_11 : decode cc_x_bundle 11 = .ok (.iload_n 2, 1) := by decide +kernel
theorem d_x_bundle_12 : decode cc_x_bundle 12 = .ok (.iconst 1, 1) := by decide +kernel
theorem d_x_bundle_13 : decode cc_x_bundle 13 = .ok (.bipush 20, 2) := by decide +kernel
theorem d_x_bundle_15 : decode cc_x_bundle 15 = .ok (.invokestatic 37, 3) := by decide +kernel
theorem d_x_bundle_18 : decode cc_x_bundle 18 = .ok (.aload_n 0, 1) := by decide +kernel
theorem d_x_bundle_19 : decode cc_x_bundle 19 = .ok (.getfield 26, 3) := by decide +kernel
theorem d_x_bundle_22 : decode cc_x_bundle 22 = .ok (.iload_n 1, 1) := by decide +kernel
theorem d_x_bundle_23 : decode cc_x_bundle 23 = .ok (.invokevirtual 121, 3) := by decide +kernel
theorem d_x_bundle_26 : decode cc_x_bundle 26 = .ok (.iload_n 2, 1) := by decide +kernel
theorem d_x_bundle_27 : decode cc_x_bundle 27 = .ok (.if_icmp .ge 13, 3) := by decide +kernel
theorem d_x_bundle_30 : decode cc_x_bundle 30 = .ok (.new 91, 3) := by decide +kernel
theorem d_x_bundle_33 : decode cc_x_bundle 33 = .ok (.dup, 1) := by decide +kernel
theorem d_x_bundle_34 : decode cc_x_bundle 34 = .ok (.ldc 124, 2) := by decide +kernel
theorem d_x_bundle_36 : decode cc_x_bundle 36 = .ok (.invokespecial 95, 3) := by decide +kernel
theorem d_x_bundle_39 : decode cc_x_bundle 39 = .ok (.athrow, 1) := by decide +kernel
theorem d_x_bundle_40 : decode cc_x_bundle 40 = .ok (.aload_n 0, 1) := by decide +kernel
theorem d_x_bundle_41 : decode cc_x_bundle 41 = .ok (.getfield 26, 3) := by decide +kernel
theorem d_x_bundle_44 : decode cc_x_bundle 44 = .ok (.iload_n 1, 1) := by decide +kernel
theorem d_x_bundle_45 : decode cc_x_bundle 45 = .ok (.iload_n 2, 1) := by decide +kernel
theorem d_x_bundle_46 : decode cc_x_bundle 46 = .ok (.aload_n 0, 1) := by decide +kernel
theorem d_x_bundle_47 : decode cc_x_bundle 47 = .ok (.getfield 33, 3) := by decide +kernel
theorem d_x_bundle_50 : decode cc_x_bundle 50 = .ok (.invokevirtual 126, 3) := by decide +kernel
theorem d_x_bundle_53 : decode cc_x_bundle 53 = .ok (.ireturn, 1) := by decide +kernel
theorem d_x_cutAt_0 : decode cc_x_cutAt 0 = .ok (.iload_n 1, 1) := by decide +kernel
theorem d_x_cutAt_1 : decode cc_x_cutAt 1 = .ok (.aload_n 0, 1) := by decide +kernel
theorem d_x_cutAt_2 : decode cc_x_cutAt 2 = .ok (.getfield 26, 3) := by decide +kernel
theorem d_x_cutAt_5 : decode cc_x_cutAt 5 = .ok (.getfield 90, 3) := by decide +kernel
theorem d_x_cutAt_8 : decode cc_x_cutAt 8 = .ok (.invokestatic 64, 3) := by decide +kernel
theorem d_x_cutAt_11 : decode cc_x_cutAt 11 = .ok (.iload_n 2, 1) := by decide +kernel
theorem d_x_cutAt_12 : decode cc_x_cutAt 12 = .ok (.iconst 4, 1) := by decide +kernel
theorem d_x_cutAt_13 : decode cc_x_cutAt 13 = .ok (.invokestatic 64, 3) := by decide +kernel
theorem d_x_cutAt_16 : decode cc_x_cutAt 16 = .ok (.aload_n 0, 1) := by decide +kernel
theorem d_x_cutAt_17 : decode cc_x_cutAt 17 = .ok (.getfield 26, 3) := by decide +kernel
theorem d_x_cutAt_20 : decode cc_x_cutAt 20 = .ok (.iload_n 1, 1) := by decide +kernel
theorem d_x_cutAt_21 : decode cc_x_cutAt 21 = .ok (.iload_n 2, 1) := by decide +kernel
theorem d_x_cutAt_22 : decode cc_x_cutAt 22 = .ok (.invokevirtual 130, 3) := by decide +kernel
theorem d_x_cutAt_25 : decode cc_x_cutAt 25 = .ok (.ireturn, 1) := by decide +kernel
theorem d_x_blade_0 : decode cc_x_blade 0 = .ok (.iload_n 1, 1) := by decide +kernel
theorem d_x_blade_1 : decode cc_x_blade 1 = .ok (.aload_n 0, 1) := by decide +kernel
theorem d_x_blade_2 : decode cc_x_blade 2 = .ok (.getfield 19, 3) := by decide +kernel
theorem d_x_blade_5 : decode cc_x_blade 5 = .ok (.getfield 60, 3) := by decide +kernel
theorem d_x_blade_8 : decode cc_x_blade 8 = .ok (.invokestatic 64, 3) := by decide +kernel
theorem d_x_blade_11 : decode cc_x_blade 11 = .ok (.iload_n 3, 1) := by decide +kernel
theorem d_x_blade_12 : decode cc_x_blade 12 = .ok (.iconst 2, 1) := by decide +kernel
theorem d_x_blade_13 : decode cc_x_blade 13 = .ok (.invokestatic 64, 3) := by decide +kernel
theorem d_x_blade_16 : decode cc_x_blade 16 = .ok (.iload_n 2, 1) := by decide +kernel
theorem d_x_blade_17 : decode cc_x_blade 17 = .ok (.iconst 1, 1) := by decide +kernel
theorem d_x_blade_18 : decode cc_x_blade 18 = .ok (.sipush 1000, 3) := by decide +kernel
theorem d_x_blade_21 : decode cc_x_blade 21 = .ok (.invokestatic 37, 3) := by decide +kernel
theorem d_x_blade_24 : decode cc_x_blade 24 = .ok (.aload_n 0, 1) := by decide +kernel
theorem d_x_blade_25 : decode cc_x_blade 25 = .ok (.getfield 19, 3) := by decide +kernel
theorem d_x_blade_28 : decode cc_x_blade 28 = .ok (.iload_n 1, 1) := by decide +kernel
theorem d_x_blade_29 : decode cc_x_blade 29 = .ok (.invokevirtual 71, 3) := by decide +kernel
theorem d_x_blade_32 : decode cc_x_blade 32 = .ok (.aload_n 0, 1) := by decide +kernel
theorem d_x_blade_33 : decode cc_x_blade 33 = .ok (.getfield 19, 3) := by decide +kernel
theorem d_x_blade_36 : decode cc_x_blade 36 = .ok (.iload_n 1, 1) := by decide +kernel
theorem d_x_blade_37 : decode cc_x_blade 37 = .ok (.invokevirtual 74, 3) := by decide +kernel
theorem d_x_blade_40 : decode cc_x_blade 40 = .ok (.iadd, 1) := by decide +kernel
theorem d_x_blade_41 : decode cc_x_blade 41 = .ok (.iload_n 2, 1) := by decide +kernel
theorem d_x_blade_42 : decode cc_x_blade 42 = .ok (.invokestatic 133, 3) := by decide +kernel
theorem d_x_blade_45 : decode cc_x_blade 45 = .ok (.istore 4, 2) := by decide +kernel
theorem d_x_blade_47 : decode cc_x_blade 47 = .ok (.iload_n 3, 1) := by decide +kernel
theorem d_x_blade_48 : decode cc_x_blade 48 = .ok (.ifCond .ne 12, 3) := by decide +kernel
theorem d_x_blade_51 : decode cc_x_blade 51 = .ok (.iload 4, 2) := by decide +kernel
theorem d_x_blade_53 : decode cc_x_blade 53 = .ok (.sipush 1000, 3) := by decide +kernel
theorem d_x_blade_56 : decode cc_x_blade 56 = .ok (.idiv, 1) := by decide +kernel
theorem d_x_blade_57 : decode cc_x_blade 57 = .ok (.goto 9, 3) := by decide +kernel
theorem d_x_blade_60 : decode cc_x_blade 60 = .ok (.iload 4, 2) := by decide +kernel
theorem d_x_blade_62 : decode cc_x_blade 62 = .ok (.sipush 1000, 3) := by decide +kernel
theorem d_x_blade_65 : decode cc_x_blade 65 = .ok (.irem, 1) := by decide +kernel
theorem d_x_blade_66 : decode cc_x_blade 66 = .ok (.ireturn, 1) := by decide +kernel
theorem d_x_sum_0 : decode cc_x_sum 0 = .ok (.iload_n 1, 1) := by decide +kernel
theorem d_x_sum_1 : decode cc_x_sum 1 = .ok (.aload_n 0, 1) := by decide +kernel
theorem d_x_sum_2 : decode cc_x_sum 2 = .ok (.getfield 10, 3) := by decide +kernel
theorem d_x_sum_5 : decode cc_x_sum 5 = .ok (.getfield 120, 3) := by decide +kernel
theorem d_x_sum_8 : decode cc_x_sum 8 = .ok (.invokestatic 64, 3) := by decide +kernel
theorem d_x_sum_11 : decode cc_x_sum 11 = .ok (.aload_n 0, 1) := by decide +kernel
theorem d_x_sum_12 : decode cc_x_sum 12 = .ok (.getfield 26, 3) := by decide +kernel
theorem d_x_sum_15 : decode cc_x_sum 15 = .ok (.iload_n 1, 1) := by decide +kernel
theorem d_x_sum_16 : decode cc_x_sum 16 = .ok (.invokevirtual 136, 3) := by decide +kernel
theorem d_x_sum_19 : decode cc_x_sum 19 = .ok (.ireturn, 1) := by decide +kernel
theorem d_x_side_0 : decode cc_x_side 0 = .ok (.iload_n 1, 1) := by decide +kernel
theorem d_x_side_1 : decode cc_x_side 1 = .ok (.ifCond .ge 13, 3) := by decide +kernel
theorem d_x_side_4 : decode cc_x_side 4 = .ok (.new 139, 3) := by decide +kernel
theorem d_x_side_7 : decode cc_x_side 7 = .ok (.dup, 1) := by decide +kernel
theorem d_x_side_8 : decode cc_x_side 8 = .ok (.ldc 141, 2) := by decide +kernel
theorem d_x_side_10 : decode cc_x_side 10 = .ok (.invokespecial 143, 3) := by decide +kernel
theorem d_x_side_13 : decode cc_x_side 13 = .ok (.athrow, 1) := by decide +kernel
theorem d_x_side_14 : decode cc_x_side 14 = .ok (.aload_n 0, 1) := by decide +kernel
theorem d_x_side_15 : decode cc_x_side 15 = .ok (.getfield 26, 3) := by decide +kernel
theorem d_x_side_18 : decode cc_x_side 18 = .ok (.iload_n 1, 1) := by decide +kernel
theorem d_x_side_19 : decode cc_x_side 19 = .ok (.invokevirtual 144, 3) := by decide +kernel
theorem d_x_side_22 : decode cc_x_side 22 = .ok (.ireturn, 1) := by decide +kernel
theorem d_x_thousandthsOfTurns_0 : decode cc_x_thousandthsOfTurns 0 = .ok (.iload_n 1, 1) := by decide +kernel
theorem d_x_thousandthsOfTurns_1 : decode cc_x_thousandthsOfTurns 1 = .ok (.iconst 1, 1) := by decide +kernel
theorem d_x_thousandthsOfTurns_2 : decode cc_x_thousandthsOfTurns 2 = .ok (.if_icmp .ge 5, 3) := by decide +kernel
theorem d_x_thousandthsOfTurns_5 : decode cc_x_thousandthsOfTurns 5 = .ok (.iconst 0, 1) := by decide +kernel
theorem d_x_thousandthsOfTurns_6 : decode cc_x_thousandthsOfTurns 6 = .ok (.ireturn, 1) := by decide +kernel
theorem d_x_thousandthsOfTurns_7 : decode cc_x_thousandthsOfTurns 7 = .ok (.sipush 2000, 3) := by decide +kernel
theorem d_x_thousandthsOfTurns_10 : decode cc_x_thousandthsOfTurns 10 = .ok (.iload_n 0, 1) := by decide +kernel
theorem d_x_thousandthsOfTurns_11 : decode cc_x_thousandthsOfTurns 11 = .ok (.imul, 1) := by decide +kernel
theorem d_x_thousandthsOfTurns_12 : decode cc_x_thousandthsOfTurns 12 = .ok (.iload_n 1, 1) := by decide +kernel
theorem d_x_thousandthsOfTurns_13 : decode cc_x_thousandthsOfTurns 13 = .ok (.iadd, 1) := by decide +kernel
theorem d_x_thousandthsOfTurns_14 : decode cc_x_thousandthsOfTurns 14 = .ok (.iconst 2, 1) := by decide +kernel
theorem d_x_thousandthsOfTurns_15 : decode cc_x_thousandthsOfTurns 15 = .ok (.iload_n 1, 1) := by decide +kernel
theorem d_x_thousandthsOfTurns_16 : decode cc_x_thousandthsOfTurns 16 = .ok (.imul, 1) := by decide +kernel
theorem d_x_thousandthsOfTurns_17 : decode cc_x_thousandthsOfTurns 17 = .ok (.idiv, 1) := by decide +kernel
theorem d_x_thousandthsOfTurns_18 : decode cc_x_thousandthsOfTurns 18 = .ok (.ireturn, 1) := by decide +kernel
theorem d_x_requireIndex_0 : decode cc_x_requireIndex 0 = .ok (.iload_n 0, 1) := by decide +kernel
theorem d_x_requireIndex_1 : decode cc_x_requireIndex 1 = .ok (.ifCond .lt 8, 3) := by decide +kernel
theorem d_x_requireIndex_4 : decode cc_x_requireIndex 4 = .ok (.iload_n 0, 1) := by decide +kernel
theorem d_x_requireIndex_5 : decode cc_x_requireIndex 5 = .ok (.iload_n 1, 1) := by decide +kernel
theorem d_x_requireIndex_6 : decode cc_x_requireIndex 6 = .ok (.if_icmp .lt 13, 3) := by decide +kernel
theorem d_x_requireIndex_9 : decode cc_x_requireIndex 9 = .ok (.new 139, 3) := by decide +kernel
theorem d_x_requireIndex_12 : decode cc_x_requireIndex 12 = .ok (.dup, 1) := by decide +kernel
theorem d_x_requireIndex_13 : decode cc_x_requireIndex 13 = .ok (.ldc 147, 2) := by decide +kernel
theorem d_x_requireIndex_15 : decode cc_x_requireIndex 15 = .ok (.invokespecial 143, 3) := by decide +kernel
theorem d_x_requireIndex_18 : decode cc_x_requireIndex 18 = .ok (.athrow, 1) := by decide +kernel
theorem d_x_requireIndex_19 : decode cc_x_requireIndex 19 = .ok (.return_, 1) := by decide +kernel
theorem d_x_requireRange_0 : decode cc_x_requireRange 0 = .ok (.iload_n 0, 1) := by decide +kernel
theorem d_x_requireRange_1 : decode cc_x_requireRange 1 = .ok (.iload_n 1, 1) := by decide +kernel
theorem d_x_requireRange_2 : decode cc_x_requireRange 2 = .ok (.if_icmp .lt 8, 3) := by decide +kernel
theorem d_x_requireRange_5 : decode cc_x_requireRange 5 = .ok (.iload_n 0, 1) := by decide +kernel
theorem d_x_requireRange_6 : decode cc_x_requireRange 6 = .ok (.iload_n 2, 1) := by decide +kernel
theorem d_x_requireRange_7 : decode cc_x_requireRange 7 = .ok (.if_icmp .le 13, 3) := by decide +kernel
theorem d_x_requireRange_10 : decode cc_x_requireRange 10 = .ok (.new 149, 3) := by decide +kernel
theorem d_x_requireRange_13 : decode cc_x_requireRange 13 = .ok (.dup, 1) := by decide +kernel
theorem d_x_requireRange_14 : decode cc_x_requireRange 14 = .ok (.ldc 151, 2) := by decide +kernel
theorem d_x_requireRange_16 : decode cc_x_requireRange 16 = .ok (.invokespecial 153, 3) := by decide +kernel
theorem d_x_requireRange_19 : decode cc_x_requireRange 19 = .ok (.athrow, 1) := by decide +kernel
theorem d_x_requireRange_20 : decode cc_x_requireRange 20 = .ok (.return_, 1) := by decide +kernel
theorem d_x_numberAt_0 : decode cc_x_numberAt 0 = .ok (.iload_n 1, 1) := by decide +kernel
theorem d_x_numberAt_1 : decode cc_x_numberAt 1 = .ok (.ifCond .lt 9, 3) := by decide +kernel
theorem d_x_numberAt_4 : decode cc_x_numberAt 4 = .ok (.iload_n 1, 1) := by decide +kernel
theorem d_x_numberAt_5 : decode cc_x_numberAt 5 = .ok (.aload_n 0, 1) := by decide +kernel
theorem d_x_numberAt_6 : decode cc_x_numberAt 6 = .ok (.arraylength, 1) := by decide +kernel
theorem d_x_numberAt_7 : decode cc_x_numberAt 7 = .ok (.if_icmp .lt 7, 3) := by decide +kernel
theorem d_x_numberAt_10 : decode cc_x_numberAt 10 = .ok (.iconst (-1), 1) := by decide +kernel
theorem d_x_numberAt_11 : decode cc_x_numberAt 11 = .ok (.goto 6, 3) := by decide +kernel
theorem d_x_numberAt_14 : decode cc_x_numberAt 14 = .ok (.aload_n 0, 1) := by decide +kernel
theorem d_x_numberAt_15 : decode cc_x_numberAt 15 = .ok (.iload_n 1, 1) := by decide +kernel
theorem d_x_numberAt_16 : decode cc_x_numberAt 16 = .ok (.iaload, 1) := by decide +kernel
theorem d_x_numberAt_17 : decode cc_x_numberAt 17 = .ok (.ireturn, 1) := by decide +kernel
