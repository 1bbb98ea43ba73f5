/-! by program: decode rows of the law -/
theorem d_l_want_0 : decode cc_l_want 0 = .ok (.aload 4, 2) := by decide +kernel
theorem d_l_want_2 : decode cc_l_want 2 = .ok (.iconst 0, 1) := by decide +kernel
theorem d_l_want_3 : decode cc_l_want 3 = .ok (.aload_n 0, 1) := by decide +kernel
theorem d_l_want_4 : decode cc_l_want 4 = .ok (.iload_n 1, 1) := by decide +kernel
theorem d_l_want_5 : decode cc_l_want 5 = .ok (.iload_n 2, 1) := by decide +kernel
theorem d_l_want_6 : decode cc_l_want 6 = .ok (.iload_n 3, 1) := by decide +kernel
theorem d_l_want_7 : decode cc_l_want 7 = .ok (.invokevirtual 7, 3) := by decide +kernel
theorem d_l_want_10 : decode cc_l_want 10 = .ok (.i2l, 1) := by decide +kernel
theorem d_l_want_11 : decode cc_l_want 11 = .ok (.lastore, 1) := by decide +kernel
theorem d_l_want_12 : decode cc_l_want 12 = .ok (.goto 11, 3) := by decide +kernel
theorem d_l_want_15 : decode cc_l_want 15 = .ok (.astore 5, 2) := by decide +kernel
theorem d_l_want_17 : decode cc_l_want 17 = .ok (.iconst 1, 1) := by decide +kernel
theorem d_l_want_18 : decode cc_l_want 18 = .ok (.ireturn, 1) := by decide +kernel
theorem d_l_want_19 : decode cc_l_want 19 = .ok (.astore 5, 2) := by decide +kernel
theorem d_l_want_21 : decode cc_l_want 21 = .ok (.iconst 2, 1) := by decide +kernel
theorem d_l_want_22 : decode cc_l_want 22 = .ok (.ireturn, 1) := by decide +kernel
theorem d_l_want_23 : decode cc_l_want 23 = .ok (.iconst 0, 1) := by decide +kernel
theorem d_l_want_24 : decode cc_l_want 24 = .ok (.ireturn, 1) := by decide +kernel
theorem d_l_bar_0 : decode cc_l_bar 0 = .ok (.aload_n 0, 1) := by decide +kernel
theorem d_l_bar_1 : decode cc_l_bar 1 = .ok (.iload_n 1, 1) := by decide +kernel
theorem d_l_bar_2 : decode cc_l_bar 2 = .ok (.iload_n 2, 1) := by decide +kernel
theorem d_l_bar_3 : decode cc_l_bar 3 = .ok (.invokevirtual 17, 3) := by decide +kernel
theorem d_l_bar_6 : decode cc_l_bar 6 = .ok (.goto 6, 3) := by decide +kernel
theorem d_l_bar_9 : decode cc_l_bar 9 = .ok (.astore_n 3, 1) := by decide +kernel
theorem d_l_bar_10 : decode cc_l_bar 10 = .ok (.iconst 1, 1) := by decide +kernel
theorem d_l_bar_11 : decode cc_l_bar 11 = .ok (.ireturn, 1) := by decide +kernel
theorem d_l_bar_12 : decode cc_l_bar 12 = .ok (.iconst 0, 1) := by decide +kernel
theorem d_l_bar_13 : decode cc_l_bar 13 = .ok (.ireturn, 1) := by decide +kernel
theorem d_l_crop_0 : decode cc_l_crop 0 = .ok (.aload_n 0, 1) := by decide +kernel
theorem d_l_crop_1 : decode cc_l_crop 1 = .ok (.iload_n 1, 1) := by decide +kernel
theorem d_l_crop_2 : decode cc_l_crop 2 = .ok (.iload_n 2, 1) := by decide +kernel
theorem d_l_crop_3 : decode cc_l_crop 3 = .ok (.invokevirtual 21, 3) := by decide +kernel
theorem d_l_crop_6 : decode cc_l_crop 6 = .ok (.goto 9, 3) := by decide +kernel
theorem d_l_crop_9 : decode cc_l_crop 9 = .ok (.astore_n 3, 1) := by decide +kernel
theorem d_l_crop_10 : decode cc_l_crop 10 = .ok (.iconst 1, 1) := by decide +kernel
theorem d_l_crop_11 : decode cc_l_crop 11 = .ok (.ireturn, 1) := by decide +kernel
theorem d_l_crop_12 : decode cc_l_crop 12 = .ok (.astore_n 3, 1) := by decide +kernel
theorem d_l_crop_13 : decode cc_l_crop 13 = .ok (.iconst 2, 1) := by decide +kernel
theorem d_l_crop_14 : decode cc_l_crop 14 = .ok (.ireturn, 1) := by decide +kernel
theorem d_l_crop_15 : decode cc_l_crop 15 = .ok (.iconst 0, 1) := by decide +kernel
theorem d_l_crop_16 : decode cc_l_crop 16 = .ok (.ireturn, 1) := by decide +kernel
theorem d_l_known_0 : decode cc_l_known 0 = .ok (.aload_n 0, 1) := by decide +kernel
theorem d_l_known_1 : decode cc_l_known 1 = .ok (.iload_n 1, 1) := by decide +kernel
theorem d_l_known_2 : decode cc_l_known 2 = .ok (.invokevirtual 24, 3) := by decide +kernel
theorem d_l_known_5 : decode cc_l_known 5 = .ok (.goto 9, 3) := by decide +kernel
theorem d_l_known_8 : decode cc_l_known 8 = .ok (.astore_n 2, 1) := by decide +kernel
theorem d_l_known_9 : decode cc_l_known 9 = .ok (.iconst 1, 1) := by decide +kernel
theorem d_l_known_10 : decode cc_l_known 10 = .ok (.ireturn, 1) := by decide +kernel
theorem d_l_known_11 : decode cc_l_known 11 = .ok (.astore_n 2, 1) := by decide +kernel
theorem d_l_known_12 : decode cc_l_known 12 = .ok (.iconst 2, 1) := by decide +kernel
theorem d_l_known_13 : decode cc_l_known 13 = .ok (.ireturn, 1) := by decide +kernel
theorem d_l_known_14 : decode cc_l_known 14 = .ok (.iconst 0, 1) := by decide +kernel
theorem d_l_known_15 : decode cc_l_known 15 = .ok (.ireturn, 1) := by decide +kernel
theorem d_l_piece_0 : decode cc_l_piece 0 = .ok (.aload_n 3, 1) := by decide +kernel
theorem d_l_piece_1 : decode cc_l_piece 1 = .ok (.iconst 0, 1) := by decide +kernel
theorem d_l_piece_2 : decode cc_l_piece 2 = .ok (.aload_n 0, 1) := by decide +kernel
theorem d_l_piece_3 : decode cc_l_piece 3 = .ok (.iload_n 1, 1) := by decide +kernel
theorem d_l_piece_4 : decode cc_l_piece 4 = .ok (.iload_n 2, 1) := by decide +kernel
theorem d_l_piece_5 : decode cc_l_piece 5 = .ok (.invokevirtual 28, 3) := by decide +kernel
theorem d_l_piece_8 : decode cc_l_piece 8 = .ok (.i2l, 1) := by decide +kernel
theorem d_l_piece_9 : decode cc_l_piece 9 = .ok (.lastore, 1) := by decide +kernel
theorem d_l_piece_10 : decode cc_l_piece 10 = .ok (.goto 7, 3) := by decide +kernel
theorem d_l_piece_13 : decode cc_l_piece 13 = .ok (.astore 4, 2) := by decide +kernel
theorem d_l_piece_15 : decode cc_l_piece 15 = .ok (.iconst 1, 1) := by decide +kernel
theorem d_l_piece_16 : decode cc_l_piece 16 = .ok (.ireturn, 1) := by decide +kernel
theorem d_l_piece_17 : decode cc_l_piece 17 = .ok (.iconst 0, 1) := by decide +kernel
theorem d_l_piece_18 : decode cc_l_piece 18 = .ok (.ireturn, 1) := by decide +kernel
theorem d_l_cut_0 : decode cc_l_cut 0 = .ok (.aload_n 1, 1) := by decide +kernel
theorem d_l_cut_1 : decode cc_l_cut 1 = .ok (.iconst 0, 1) := by decide +kernel
theorem d_l_cut_2 : decode cc_l_cut 2 = .ok (.aload_n 0, 1) := by decide +kernel
theorem d_l_cut_3 : decode cc_l_cut 3 = .ok (.invokevirtual 34, 3) := by decide +kernel
theorem d_l_cut_6 : decode cc_l_cut 6 = .ok (.i2l, 1) := by decide +kernel
theorem d_l_cut_7 : decode cc_l_cut 7 = .ok (.lastore, 1) := by decide +kernel
theorem d_l_cut_8 : decode cc_l_cut 8 = .ok (.goto 9, 3) := by decide +kernel
theorem d_l_cut_11 : decode cc_l_cut 11 = .ok (.astore_n 2, 1) := by decide +kernel
theorem d_l_cut_12 : decode cc_l_cut 12 = .ok (.iconst 1, 1) := by decide +kernel
theorem d_l_cut_13 : decode cc_l_cut 13 = .ok (.ireturn, 1) := by decide +kernel
theorem d_l_cut_14 : decode cc_l_cut 14 = .ok (.astore_n 2, 1) := by decide +kernel
theorem d_l_cut_15 : decode cc_l_cut 15 = .ok (.iconst 2, 1) := by decide +kernel
theorem d_l_cut_16 : decode cc_l_cut 16 = .ok (.ireturn, 1) := by decide +kernel
theorem d_l_cut_17 : decode cc_l_cut 17 = .ok (.iconst 0, 1) := by decide +kernel
theorem d_l_cut_18 : decode cc_l_cut 18 = .ok (.ireturn, 1) := by decide +kernel
theorem d_l_bed_0 : decode cc_l_bed 0 = .ok (.aload_n 0, 1) := by decide +kernel
theorem d_l_bed_1 : decode cc_l_bed 1 = .ok (.iload_n 1, 1) := by decide +kernel
theorem d_l_bed_2 : decode cc_l_bed 2 = .ok (.iload_n 2, 1) := by decide +kernel
theorem d_l_bed_3 : decode cc_l_bed 3 = .ok (.invokevirtual 40, 3) := by decide +kernel
theorem d_l_bed_6 : decode cc_l_bed 6 = .ok (.goto 9, 3) := by decide +kernel
theorem d_l_bed_9 : decode cc_l_bed 9 = .ok (.astore_n 3, 1) := by decide +kernel
theorem d_l_bed_10 : decode cc_l_bed 10 = .ok (.iconst 1, 1) := by decide +kernel
theorem d_l_bed_11 : decode cc_l_bed 11 = .ok (.ireturn, 1) := by decide +kernel
theorem d_l_bed_12 : decode cc_l_bed 12 = .ok (.astore_n 3, 1) := by decide +kernel
theorem d_l_bed_13 : decode cc_l_bed 13 = .ok (.iconst 2, 1) := by decide +kernel
theorem d_l_bed_14 : decode cc_l_bed 14 = .ok (.ireturn, 1) := by decide +kernel
theorem d_l_bed_15 : decode cc_l_bed 15 = .ok (.iconst 0, 1) := by decide +kernel
theorem d_l_bed_16 : decode cc_l_bed 16 = .ok (.ireturn, 1) := by decide +kernel
theorem d_l_at_0 : decode cc_l_at 0 = .ok (.aload_n 2, 1) := by decide +kernel
theorem d_l_at_1 : decode cc_l_at 1 = .ok (.iconst 0, 1) := by decide +kernel
theorem d_l_at_2 : decode cc_l_at 2 = .ok (.aload_n 0, 1) := by decide +kernel
theorem d_l_at_3 : decode cc_l_at 3 = .ok (.iload_n 1, 1) := by decide +kernel
theorem d_l_at_4 : decode cc_l_at 4 = .ok (.invokevirtual 43, 3) := by decide +kernel
theorem d_l_at_7 : decode cc_l_at 7 = .ok (.i2l, 1) := by decide +kernel
theorem d_l_at_8 : decode cc_l_at 8 = .ok (.lastore, 1) := by decide +kernel
theorem d_l_at_9 : decode cc_l_at 9 = .ok (.goto 6, 3) := by decide +kernel
theorem d_l_at_12 : decode cc_l_at 12 = .ok (.astore_n 3, 1) := by decide +kernel
theorem d_l_at_13 : decode cc_l_at 13 = .ok (.iconst 1, 1) := by decide +kernel
theorem d_l_at_14 : decode cc_l_at 14 = .ok (.ireturn, 1) := by decide +kernel
theorem d_l_at_15 : decode cc_l_at 15 = .ok (.iconst 0, 1) := by decide +kernel
theorem d_l_at_16 : decode cc_l_at 16 = .ok (.ireturn, 1) := by decide +kernel
theorem d_l_bundle_0 : decode cc_l_bundle 0 = .ok (.aload_n 3, 1) := by decide +kernel
theorem d_l_bundle_1 : decode cc_l_bundle 1 = .ok (.iconst 0, 1) := by decide +kernel
theorem d_l_bundle_2 : decode cc_l_bundle 2 = .ok (.aload_n 0, 1) := by decide +kernel
theorem d_l_bundle_3 : decode cc_l_bundle 3 = .ok (.iload_n 1, 1) := by decide +kernel
theorem d_l_bundle_4 : decode cc_l_bundle 4 = .ok (.iload_n 2, 1) := by decide +kernel
theorem d_l_bundle_5 : decode cc_l_bundle 5 = .ok (.invokevirtual 47, 3) := by decide +kernel
theorem d_l_bundle_8 : decode cc_l_bundle 8 = .ok (.i2l, 1) := by decide +kernel
theorem d_l_bundle_9 : decode cc_l_bundle 9 = .ok (.lastore, 1) := by decide +kernel
theorem d_l_bundle_10 : decode cc_l_bundle 10 = .ok (.goto 15, 3) := by decide +kernel
theorem d_l_bundle_13 : decode cc_l_bundle 13 = .ok (.astore 4, 2) := by decide +kernel
theorem d_l_bundle_15 : decode cc_l_bundle 15 = .ok (.iconst 1, 1) := by decide +kernel
theorem d_l_bundle_16 : decode cc_l_bundle 16 = .ok (.ireturn, 1) := by decide +kernel
theorem d_l_bundle_17 : decode cc_l_bundle 17 = .ok (.astore 4, 2) := by decide +kernel
theorem d_l_bundle_19 : decode cc_l_bundle 19 = .ok (.iconst 2, 1) := by decide +kernel
theorem d_l_bundle_20 : decode cc_l_bundle 20 = .ok (.ireturn, 1) := by decide +kernel
theorem d_l_bundle_21 : decode cc_l_bundle 21 = .ok (.astore 4, 2) := by decide +kernel
theorem d_l_bundle_23 : decode cc_l_bundle 23 = .ok (.iconst 3, 1) := by decide +kernel
theorem d_l_bundle_24 : decode cc_l_bundle 24 = .ok (.ireturn, 1) := by decide +kernel
theorem d_l_bundle_25 : decode cc_l_bundle 25 = .ok (.iconst 0, 1) := by decide +kernel
theorem d_l_bundle_26 : decode cc_l_bundle 26 = .ok (.ireturn, 1) := by decide +kernel
theorem d_l_cutAt_0 : decode cc_l_cutAt 0 = .ok (.aload_n 3, 1) := by decide +kernel
theorem d_l_cutAt_1 : decode cc_l_cutAt 1 = .ok (.iconst 0, 1) := by decide +kernel
theorem d_l_cutAt_2 : decode cc_l_cutAt 2 = .ok (.aload_n 0, 1) := by decide +kernel
theorem d_l_cutAt_3 : decode cc_l_cutAt 3 = .ok (.iload_n 1, 1) := by decide +kernel
theorem d_l_cutAt_4 : decode cc_l_cutAt 4 = .ok (.iload_n 2, 1) := by decide +kernel
theorem d_l_cutAt_5 : decode cc_l_cutAt 5 = .ok (.invokevirtual 50, 3) := by decide +kernel
theorem d_l_cutAt_8 : decode cc_l_cutAt 8 = .ok (.i2l, 1) := by decide +kernel
theorem d_l_cutAt_9 : decode cc_l_cutAt 9 = .ok (.lastore, 1) := by decide +kernel
theorem d_l_cutAt_10 : decode cc_l_cutAt 10 = .ok (.goto 7, 3) := by decide +kernel
theorem d_l_cutAt_13 : decode cc_l_cutAt 13 = .ok (.astore 4, 2) := by decide +kernel
theorem d_l_cutAt_15 : decode cc_l_cutAt 15 = .ok (.iconst 1, 1) := by decide +kernel
theorem d_l_cutAt_16 : decode cc_l_cutAt 16 = .ok (.ireturn, 1) := by decide +kernel
theorem d_l_cutAt_17 : decode cc_l_cutAt 17 = .ok (.iconst 0, 1) := by decide +kernel
theorem d_l_cutAt_18 : decode cc_l_cutAt 18 = .ok (.ireturn, 1) := by decide +kernel
theorem d_l_blade_0 : decode cc_l_blade 0 = .ok (.aload 4, 2) := by decide +kernel
theorem d_l_blade_2 : decode cc_l_blade 2 = .ok (.iconst 0, 1) := by decide +kernel
theorem d_l_blade_3 : decode cc_l_blade 3 = .ok (.aload_n 0, 1) := by decide +kernel
theorem d_l_blade_4 : decode cc_l_blade 4 = .ok (.iload_n 1, 1) := by decide +kernel
theorem d_l_blade_5 : decode cc_l_blade 5 = .ok (.iload_n 2, 1) := by decide +kernel
theorem d_l_blade_6 : decode cc_l_blade 6 = .ok (.iload_n 3, 1) := by decide +kernel
theorem d_l_blade_7 : decode cc_l_blade 7 = .ok (.invokevirtual 53, 3) := by decide +kernel
theorem d_l_blade_10 : decode cc_l_blade 10 = .ok (.i2l, 1) := by decide +kernel
theorem d_l_blade_11 : decode cc_l_blade 11 = .ok (.lastore, 1) := by decide +kernel
theorem d_l_blade_12 : decode cc_l_blade 12 = .ok (.goto 11, 3) := by decide +kernel
theorem d_l_blade_15 : decode cc_l_blade 15 = .ok (.astore 5, 2) := by decide +kernel
theorem d_l_blade_17 : decode cc_l_blade 17 = .ok (.iconst 1, 1) := by decide +kernel
theorem d_l_blade_18 : decode cc_l_blade 18 = .ok (.ireturn, 1) := by decide +kernel
theorem d_l_blade_19 : decode cc_l_blade 19 = .ok (.astore 5, 2) := by decide +kernel
theorem d_l_blade_21 : decode cc_l_blade 21 = .ok (.iconst 2, 1) := by decide +kernel
theorem d_l_blade_22 : decode cc_l_blade 22 = .ok (.ireturn, 1) := by decide +kernel
theorem d_l_blade_23 : decode cc_l_blade 23 = .ok (.iconst 0, 1) := by decide +kernel
theorem d_l_blade_24 : decode cc_l_blade 24 = .ok (.ireturn, 1) := by decide +kernel
theorem d_l_sum_0 : decode cc_l_sum 0 = .ok (.aload_n 2, 1) := by decide +kernel
theorem d_l_sum_1 : decode cc_l_sum 1 = .ok (.iconst 0, 1) := by decide +kernel
theorem d_l_sum_2 : decode cc_l_sum 2 = .ok (.aload_n 0, 1) := by decide +kernel
theorem d_l_sum_3 : decode cc_l_sum 3 = .ok (.iload_n 1, 1) := by decide +kernel
theorem d_l_sum_4 : decode cc_l_sum 4 = .ok (.invokevirtual 56, 3) := by decide +kernel
theorem d_l_sum_7 : decode cc_l_sum 7 = .ok (.i2l, 1) := by decide +kernel
theorem d_l_sum_8 : decode cc_l_sum 8 = .ok (.lastore, 1) := by decide +kernel
theorem d_l_sum_9 : decode cc_l_sum 9 = .ok (.goto 6, 3) := by decide +kernel
theorem d_l_sum_12 : decode cc_l_sum 12 = .ok (.astore_n 3, 1) := by decide +kernel
theorem d_l_sum_13 : decode cc_l_sum 13 = .ok (.iconst 1, 1) := by decide +kernel
theorem d_l_sum_14 : decode cc_l_sum 14 = .ok (.ireturn, 1) := by decide +kernel
theorem d_l_sum_15 : decode cc_l_sum 15 = .ok (.iconst 0, 1) := by decide +kernel
theorem d_l_sum_16 : decode cc_l_sum 16 = .ok (.ireturn, 1) := by decide +kernel
theorem d_l_side_0 : decode cc_l_side 0 = .ok (.aload_n 2, 1) := by decide +kernel
theorem d_l_side_1 : decode cc_l_side 1 = .ok (.iconst 0, 1) := by decide +kernel
theorem d_l_side_2 : decode cc_l_side 2 = .ok (.aload_n 0, 1) := by decide +kernel
theorem d_l_side_3 : decode cc_l_side 3 = .ok (.iload_n 1, 1) := by decide +kernel
theorem d_l_side_4 : decode cc_l_side 4 = .ok (.invokevirtual 59, 3) := by decide +kernel
theorem d_l_side_7 : decode cc_l_side 7 = .ok (.i2l, 1) := by decide +kernel
theorem d_l_side_8 : decode cc_l_side 8 = .ok (.lastore, 1) := by decide +kernel
theorem d_l_side_9 : decode cc_l_side 9 = .ok (.goto 6, 3) := by decide +kernel
theorem d_l_side_12 : decode cc_l_side 12 = .ok (.astore_n 3, 1) := by decide +kernel
theorem d_l_side_13 : decode cc_l_side 13 = .ok (.iconst 1, 1) := by decide +kernel
theorem d_l_side_14 : decode cc_l_side 14 = .ok (.ireturn, 1) := by decide +kernel
theorem d_l_side_15 : decode cc_l_side 15 = .ok (.iconst 0, 1) := by decide +kernel
theorem d_l_side_16 : decode cc_l_side 16 = .ok (.ireturn, 1) := by decide +kernel
theorem d_l_law_0 : decode code 0 = .ok (.new 8, 3) := by decide +kernel
theorem d_l_law_3 : decode code 3 = .ok (.dup, 1) := by decide +kernel
theorem d_l_law_4 : decode code 4 = .ok (.invokespecial 62, 3) := by decide +kernel
theorem d_l_law_7 : decode code 7 = .ok (.astore_n 1, 1) := by decide +kernel
theorem d_l_law_8 : decode code 8 = .ok (.new 63, 3) := by decide +kernel
theorem d_l_law_11 : decode code 11 = .ok (.dup, 1) := by decide +kernel
theorem d_l_law_12 : decode code 12 = .ok (.invokespecial 65, 3) := by decide +kernel
theorem d_l_law_15 : decode code 15 = .ok (.astore_n 2, 1) := by decide +kernel
theorem d_l_law_16 : decode code 16 = .ok (.iconst 1, 1) := by decide +kernel
theorem d_l_law_17 : decode code 17 = .ok (.newarray .long, 2) := by decide +kernel
theorem d_l_law_19 : decode code 19 = .ok (.astore_n 3, 1) := by decide +kernel
theorem d_l_law_20 : decode code 20 = .ok (.iconst 0, 1) := by decide +kernel
theorem d_l_law_21 : decode code 21 = .ok (.istore 4, 2) := by decide +kernel
theorem d_l_law_23 : decode code 23 = .ok (.iload 4, 2) := by decide +kernel
theorem d_l_law_25 : decode code 25 = .ok (.aload_n 0, 1) := by decide +kernel
theorem d_l_law_26 : decode code 26 = .ok (.arraylength, 1) := by decide +kernel
theorem d_l_law_27 : decode code 27 = .ok (.iconst 4, 1) := by decide +kernel
theorem d_l_law_28 : decode code 28 = .ok (.isub, 1) := by decide +kernel
theorem d_l_law_29 : decode code 29 = .ok (.if_icmp .gt 871, 3) := by decide +kernel
theorem d_l_law_32 : decode code 32 = .ok (.aload_n 0, 1) := by decide +kernel
theorem d_l_law_33 : decode code 33 = .ok (.iload 4, 2) := by decide +kernel
theorem d_l_law_35 : decode code 35 = .ok (.iaload, 1) := by decide +kernel
theorem d_l_law_36 : decode code 36 = .ok (.bipush 15, 2) := by decide +kernel
theorem d_l_law_38 : decode code 38 = .ok (.iand, 1) := by decide +kernel
theorem d_l_law_39 : decode code 39 = .ok (.tableswitch 855 0 14 #[73, 153, 201, 249, 285, 298, 366, 379, 423, 471, 527, 595, 663, 743, 799], 73) := by decide +kernel
theorem d_l_law_112 : decode code 112 = .ok (.aload_n 1, 1) := by decide +kernel
theorem d_l_law_113 : decode code 113 = .ok (.aload_n 0, 1) := by decide +kernel
theorem d_l_law_114 : decode code 114 = .ok (.iload 4, 2) := by decide +kernel
theorem d_l_law_116 : decode code 116 = .ok (.iconst 1, 1) := by decide +kernel
theorem d_l_law_117 : decode code 117 = .ok (.iadd, 1) := by decide +kernel
theorem d_l_law_118 : decode code 118 = .ok (.iaload, 1) := by decide +kernel
theorem d_l_law_119 : decode code 119 = .ok (.aload_n 0, 1) := by decide +kernel
theorem d_l_law_120 : decode code 120 = .ok (.iload 4, 2) := by decide +kernel
theorem d_l_law_122 : decode code 122 = .ok (.iconst 2, 1) := by decide +kernel
theorem d_l_law_123 : decode code 123 = .ok (.iadd, 1) := by decide +kernel
theorem d_l_law_124 : decode code 124 = .ok (.iaload, 1) := by decide +kernel
theorem d_l_law_125 : decode code 125 = .ok (.aload_n 0, 1) := by decide +kernel
theorem d_l_law_126 : decode code 126 = .ok (.iload 4, 2) := by decide +kernel
theorem d_l_law_128 : decode code 128 = .ok (.iconst 3, 1) := by decide +kernel
theorem d_l_law_129 : decode code 129 = .ok (.iadd, 1) := by decide +kernel
theorem d_l_law_130 : decode code 130 = .ok (.iaload, 1) := by decide +kernel
theorem d_l_law_131 : decode code 131 = .ok (.aload_n 3, 1) := by decide +kernel
theorem d_l_law_132 : decode code 132 = .ok (.invokestatic 66, 3) := by decide +kernel
theorem d_l_law_135 : decode code 135 = .ok (.istore 5, 2) := by decide +kernel
theorem d_l_law_137 : decode code 137 = .ok (.aload_n 2, 1) := by decide +kernel
theorem d_l_law_138 : decode code 138 = .ok (.aload_n 0, 1) := by decide +kernel
theorem d_l_law_139 : decode code 139 = .ok (.iload 4, 2) := by decide +kernel
theorem d_l_law_141 : decode code 141 = .ok (.iconst 1, 1) := by decide +kernel
theorem d_l_law_142 : decode code 142 = .ok (.iadd, 1) := by decide +kernel
theorem d_l_law_143 : decode code 143 = .ok (.iaload, 1) := by decide +kernel
theorem d_l_law_144 : decode code 144 = .ok (.aload_n 0, 1) := by decide +kernel
theorem d_l_law_145 : decode code 145 = .ok (.iload 4, 2) := by decide +kernel
theorem d_l_law_147 : decode code 147 = .ok (.iconst 2, 1) := by decide +kernel
theorem d_l_law_148 : decode code 148 = .ok (.iadd, 1) := by decide +kernel
theorem d_l_law_149 : decode code 149 = .ok (.iaload, 1) := by decide +kernel
theorem d_l_law_150 : decode code 150 = .ok (.aload_n 0, 1) := by decide +kernel
theorem d_l_law_151 : decode code 151 = .ok (.iload 4, 2) := by decide +kernel
theorem d_l_law_153 : decode code 153 = .ok (.iconst 3, 1) := by decide +kernel
theorem d_l_law_154 : decode code 154 = .ok (.iadd, 1) := by decide +kernel
theorem d_l_law_155 : decode code 155 = .ok (.iaload, 1) := by decide +kernel
theorem d_l_law_156 : decode code 156 = .ok (.invokevirtual 71, 3) := by decide +kernel
theorem d_l_law_159 : decode code 159 = .ok (.istore 6, 2) := by decide +kernel
theorem d_l_law_161 : decode code 161 = .ok (.aload_n 2, 1) := by decide +kernel
theorem d_l_law_162 : decode code 162 = .ok (.invokevirtual 72, 3) := by decide +kernel
theorem d_l_law_165 : decode code 165 = .ok (.iload 5, 2) := by decide +kernel
theorem d_l_law_167 : decode code 167 = .ok (.if_icmp .eq 5, 3) := by decide +kernel
theorem d_l_law_170 : decode code 170 = .ok (.iconst 0, 1) := by decide +kernel
theorem d_l_law_171 : decode code 171 = .ok (.ireturn, 1) := by decide +kernel
theorem d_l_law_172 : decode code 172 = .ok (.iload 5, 2) := by decide +kernel
theorem d_l_law_174 : decode code 174 = .ok (.ifCond .ne 15, 3) := by decide +kernel
theorem d_l_law_177 : decode code 177 = .ok (.aload_n 3, 1) := by decide +kernel
theorem d_l_law_178 : decode code 178 = .ok (.iconst 0, 1) := by decide +kernel
theorem d_l_law_179 : decode code 179 = .ok (.laload, 1) := by decide +kernel
theorem d_l_law_180 : decode code 180 = .ok (.iload 6, 2) := by decide +kernel
theorem d_l_law_182 : decode code 182 = .ok (.i2l, 1) := by decide +kernel
theorem d_l_law_183 : decode code 183 = .ok (.lcmp, 1) := by decide +kernel
theorem d_l_law_184 : decode code 184 = .ok (.ifCond .eq 5, 3) := by decide +kernel
theorem d_l_law_187 : decode code 187 = .ok (.iconst 0, 1) := by decide +kernel
theorem d_l_law_188 : decode code 188 = .ok (.ireturn, 1) := by decide +kernel
theorem d_l_law_189 : decode code 189 = .ok (.goto 705, 3) := by decide +kernel
theorem d_l_law_192 : decode code 192 = .ok (.aload_n 1, 1) := by decide +kernel
theorem d_l_law_193 : decode code 193 = .ok (.aload_n 0, 1) := by decide +kernel
theorem d_l_law_194 : decode code 194 = .ok (.iload 4, 2) := by decide +kernel
theorem d_l_law_196 : decode code 196 = .ok (.iconst 1, 1) := by decide +kernel
theorem d_l_law_197 : decode code 197 = .ok (.iadd, 1) := by decide +kernel
theorem d_l_law_198 : decode code 198 = .ok (.iaload, 1) := by decide +kernel
theorem d_l_law_199 : decode code 199 = .ok (.aload_n 0, 1) := by decide +kernel
theorem d_l_law_200 : decode code 200 = .ok (.iload 4, 2) := by decide +kernel
theorem d_l_law_202 : decode code 202 = .ok (.iconst 2, 1) := by decide +kernel
theorem d_l_law_203 : decode code 203 = .ok (.iadd, 1) := by decide +kernel
theorem d_l_law_204 : decode code 204 = .ok (.iaload, 1) := by decide +kernel
theorem d_l_law_205 : decode code 205 = .ok (.invokestatic 75, 3) := by decide +kernel
theorem d_l_law_208 : decode code 208 = .ok (.istore 5, 2) := by decide +kernel
theorem d_l_law_210 : decode code 210 = .ok (.aload_n 2, 1) := by decide +kernel
theorem d_l_law_211 : decode code 211 = .ok (.aload_n 0, 1) := by decide +kernel
theorem d_l_law_212 : decode code 212 = .ok (.iload 4, 2) := by decide +kernel
theorem d_l_law_214 : decode code 214 = .ok (.iconst 1, 1) := by decide +kernel
theorem d_l_law_215 : decode code 215 = .ok (.iadd, 1) := by decide +kernel
theorem d_l_law_216 : decode code 216 = .ok (.iaload, 1) := by decide +kernel
theorem d_l_law_217 : decode code 217 = .ok (.aload_n 0, 1) := by decide +kernel
theorem d_l_law_218 : decode code 218 = .ok (.iload 4, 2) := by decide +kernel
theorem d_l_law_220 : decode code 220 = .ok (.iconst 2, 1) := by decide +kernel
theorem d_l_law_221 : decode code 221 = .ok (.iadd, 1) := by decide +kernel
theorem d_l_law_222 : decode code 222 = .ok (.iaload, 1) := by decide +kernel
theorem d_l_law_223 : decode code 223 = .ok (.invokevirtual 78, 3) := by decide +kernel
theorem d_l_law_226 : decode code 226 = .ok (.aload_n 2, 1) := by decide +kernel
theorem d_l_law_227 : decode code 227 = .ok (.invokevirtual 72, 3) := by decide +kernel
theorem d_l_law_230 : decode code 230 = .ok (.iload 5, 2) := by decide +kernel
theorem d_l_law_232 : decode code 232 = .ok (.if_icmp .eq 5, 3) := by decide +kernel
theorem d_l_law_235 : decode code 235 = .ok (.iconst 0, 1) := by decide +kernel
theorem d_l_law_236 : decode code 236 = .ok (.ireturn, 1) := by decide +kernel
theorem d_l_law_237 : decode code 237 = .ok (.goto 657, 3) := by decide +kernel
theorem d_l_law_240 : decode code 240 = .ok (.aload_n 1, 1) := by decide +kernel
theorem d_l_law_241 : decode code 241 = .ok (.aload_n 0, 1) := by decide +kernel
theorem d_l_law_242 : decode code 242 = .ok (.iload 4, 2) := by decide +kernel
theorem d_l_law_244 : decode code 244 = .ok (.iconst 1, 1) := by decide +kernel
theorem d_l_law_245 : decode code 245 = .ok (.iadd, 1) := by decide +kernel
theorem d_l_law_246 : decode code 246 = .ok (.iaload, 1) := by decide +kernel
theorem d_l_law_247 : decode code 247 = .ok (.aload_n 0, 1) := by decide +kernel
theorem d_l_law_248 : decode code 248 = .ok (.iload 4, 2) := by decide +kernel
theorem d_l_law_250 : decode code 250 = .ok (.iconst 2, 1) := by decide +kernel
theorem d_l_law_251 : decode code 251 = .ok (.iadd, 1) := by decide +kernel
theorem d_l_law_252 : decode code 252 = .ok (.iaload, 1) := by decide +kernel
theorem d_l_law_253 : decode code 253 = .ok (.invokestatic 79, 3) := by decide +kernel
theorem d_l_law_256 : decode code 256 = .ok (.istore 5, 2) := by decide +kernel
theorem d_l_law_258 : decode code 258 = .ok (.aload_n 2, 1) := by decide +kernel
theorem d_l_law_259 : decode code 259 = .ok (.aload_n 0, 1) := by decide +kernel
theorem d_l_law_260 : decode code 260 = .ok (.iload 4, 2) := by decide +kernel
theorem d_l_law_262 : decode code 262 = .ok (.iconst 1, 1) := by decide +kernel
theorem d_l_law_263 : decode code 263 = .ok (.iadd, 1) := by decide +kernel
theorem d_l_law_264 : decode code 264 = .ok (.iaload, 1) := by decide +kernel
theorem d_l_law_265 : decode code 265 = .ok (.aload_n 0, 1) := by decide +kernel
theorem d_l_law_266 : decode code 266 = .ok (.iload 4, 2) := by decide +kernel
theorem d_l_law_268 : decode code 268 = .ok (.iconst 2, 1) := by decide +kernel
theorem d_l_law_269 : decode code 269 = .ok (.iadd, 1) := by decide +kernel
theorem d_l_law_270 : decode code 270 = .ok (.iaload, 1) := by decide +kernel
theorem d_l_law_271 : decode code 271 = .ok (.invokevirtual 81, 3) := by decide +kernel
theorem d_l_law_274 : decode code 274 = .ok (.aload_n 2, 1) := by decide +kernel
theorem d_l_law_275 : decode code 275 = .ok (.invokevirtual 72, 3) := by decide +kernel
theorem d_l_law_278 : decode code 278 = .ok (.iload 5, 2) := by decide +kernel
theorem d_l_law_280 : decode code 280 = .ok (.if_icmp .eq 5, 3) := by decide +kernel
theorem d_l_law_283 : decode code 283 = .ok (.iconst 0, 1) := by decide +kernel
theorem d_l_law_284 : decode code 284 = .ok (.ireturn, 1) := by decide +kernel
theorem d_l_law_285 : decode code 285 = .ok (.goto 609, 3) := by decide +kernel
theorem d_l_law_288 : decode code 288 = .ok (.aload_n 1, 1) := by decide +kernel
theorem d_l_law_289 : decode code 289 = .ok (.aload_n 0, 1) := by decide +kernel
theorem d_l_law_290 : decode code 290 = .ok (.iload 4, 2) := by decide +kernel
theorem d_l_law_292 : decode code 292 = .ok (.iconst 1, 1) := by decide +kernel
theorem d_l_law_293 : decode code 293 = .ok (.iadd, 1) := by decide +kernel
theorem d_l_law_294 : decode code 294 = .ok (.iaload, 1) := by decide +kernel
theorem d_l_law_295 : decode code 295 = .ok (.invokestatic 82, 3) := by decide +kernel
theorem d_l_law_298 : decode code 298 = .ok (.istore 5, 2) := by decide +kernel
theorem d_l_law_300 : decode code 300 = .ok (.aload_n 2, 1) := by decide +kernel
theorem d_l_law_301 : decode code 301 = .ok (.aload_n 0, 1) := by decide +kernel
theorem d_l_law_302 : decode code 302 = .ok (.iload 4, 2) := by decide +kernel
theorem d_l_law_304 : decode code 304 = .ok (.iconst 1, 1) := by decide +kernel
theorem d_l_law_305 : decode code 305 = .ok (.iadd, 1) := by decide +kernel
theorem d_l_law_306 : decode code 306 = .ok (.iaload, 1) := by decide +kernel
theorem d_l_law_307 : decode code 307 = .ok (.invokevirtual 85, 3) := by decide +kernel
theorem d_l_law_310 : decode code 310 = .ok (.aload_n 2, 1) := by decide +kernel
theorem d_l_law_311 : decode code 311 = .ok (.invokevirtual 72, 3) := by decide +kernel
theorem d_l_law_314 : decode code 314 = .ok (.iload 5, 2) := by decide +kernel
theorem d_l_law_316 : decode code 316 = .ok (.if_icmp .eq 5, 3) := by decide +kernel
theorem d_l_law_319 : decode code 319 = .ok (.iconst 0, 1) := by decide +kernel
theorem d_l_law_320 : decode code 320 = .ok (.ireturn, 1) := by decide +kernel
theorem d_l_law_321 : decode code 321 = .ok (.goto 573, 3) := by decide +kernel
theorem d_l_law_324 : decode code 324 = .ok (.aload_n 1, 1) := by decide +kernel
theorem d_l_law_325 : decode code 325 = .ok (.invokevirtual 86, 3) := by decide +kernel
theorem d_l_law_328 : decode code 328 = .ok (.aload_n 2, 1) := by decide +kernel
theorem d_l_law_329 : decode code 329 = .ok (.invokevirtual 89, 3) := by decide +kernel
theorem d_l_law_332 : decode code 332 = .ok (.if_icmp .eq 562, 3) := by decide +kernel
theorem d_l_law_335 : decode code 335 = .ok (.iconst 0, 1) := by decide +kernel
theorem d_l_law_336 : decode code 336 = .ok (.ireturn, 1) := by decide +kernel
theorem d_l_law_337 : decode code 337 = .ok (.aload_n 1, 1) := by decide +kernel
theorem d_l_law_338 : decode code 338 = .ok (.aload_n 0, 1) := by decide +kernel
theorem d_l_law_339 : decode code 339 = .ok (.iload 4, 2) := by decide +kernel
theorem d_l_law_341 : decode code 341 = .ok (.iconst 1, 1) := by decide +kernel
theorem d_l_law_342 : decode code 342 = .ok (.iadd, 1) := by decide +kernel
theorem d_l_law_343 : decode code 343 = .ok (.iaload, 1) := by decide +kernel
theorem d_l_law_344 : decode code 344 = .ok (.aload_n 0, 1) := by decide +kernel
theorem d_l_law_345 : decode code 345 = .ok (.iload 4, 2) := by decide +kernel
theorem d_l_law_347 : decode code 347 = .ok (.iconst 2, 1) := by decide +kernel
theorem d_l_law_348 : decode code 348 = .ok (.iadd, 1) := by decide +kernel
theorem d_l_law_349 : decode code 349 = .ok (.iaload, 1) := by decide +kernel
theorem d_l_law_350 : decode code 350 = .ok (.aload_n 3, 1) := by decide +kernel
theorem d_l_law_351 : decode code 351 = .ok (.invokestatic 90, 3) := by decide +kernel
theorem d_l_law_354 : decode code 354 = .ok (.istore 5, 2) := by decide +kernel
theorem d_l_law_356 : decode code 356 = .ok (.aload_n 2, 1) := by decide +kernel
theorem d_l_law_357 : decode code 357 = .ok (.aload_n 0, 1) := by decide +kernel
theorem d_l_law_358 : decode code 358 = .ok (.iload 4, 2) := by decide +kernel
theorem d_l_law_360 : decode code 360 = .ok (.iconst 1, 1) := by decide +kernel
theorem d_l_law_361 : decode code 361 = .ok (.iadd, 1) := by decide +kernel
theorem d_l_law_362 : decode code 362 = .ok (.iaload, 1) := by decide +kernel
theorem d_l_law_363 : decode code 363 = .ok (.aload_n 0, 1) := by decide +kernel
theorem d_l_law_364 : decode code 364 = .ok (.iload 4, 2) := by decide +kernel
theorem d_l_law_366 : decode code 366 = .ok (.iconst 2, 1) := by decide +kernel
theorem d_l_law_367 : decode code 367 = .ok (.iadd, 1) := by decide +kernel
theorem d_l_law_368 : decode code 368 = .ok (.iaload, 1) := by decide +kernel
theorem d_l_law_369 : decode code 369 = .ok (.invokevirtual 93, 3) := by decide +kernel
theorem d_l_law_372 : decode code 372 = .ok (.istore 6, 2) := by decide +kernel
theorem d_l_law_374 : decode code 374 = .ok (.aload_n 2, 1) := by decide +kernel
theorem d_l_law_375 : decode code 375 = .ok (.invokevirtual 72, 3) := by decide +kernel
theorem d_l_law_378 : decode code 378 = .ok (.iload 5, 2) := by decide +kernel
theorem d_l_law_380 : decode code 380 = .ok (.if_icmp .eq 5, 3) := by decide +kernel
theorem d_l_law_383 : decode code 383 = .ok (.iconst 0, 1) := by decide +kernel
theorem d_l_law_384 : decode code 384 = .ok (.ireturn, 1) := by decide +kernel
theorem d_l_law_385 : decode code 385 = .ok (.iload 5, 2) := by decide +kernel
theorem d_l_law_387 : decode code 387 = .ok (.ifCond .ne 15, 3) := by decide +kernel
theorem d_l_law_390 : decode code 390 = .ok (.aload_n 3, 1) := by decide +kernel
theorem d_l_law_391 : decode code 391 = .ok (.iconst 0, 1) := by decide +kernel
theorem d_l_law_392 : decode code 392 = .ok (.laload, 1) := by decide +kernel
theorem d_l_law_393 : decode code 393 = .ok (.iload 6, 2) := by decide +kernel
theorem d_l_law_395 : decode code 395 = .ok (.i2l, 1) := by decide +kernel
theorem d_l_law_396 : decode code 396 = .ok (.lcmp, 1) := by decide +kernel
theorem d_l_law_397 : decode code 397 = .ok (.ifCond .eq 5, 3) := by decide +kernel
theorem d_l_law_400 : decode code 400 = .ok (.iconst 0, 1) := by decide +kernel
theorem d_l_law_401 : decode code 401 = .ok (.ireturn, 1) := by decide +kernel
theorem d_l_law_402 : decode code 402 = .ok (.goto 492, 3) := by decide +kernel
theorem d_l_law_405 : decode code 405 = .ok (.aload_n 1, 1) := by decide +kernel
theorem d_l_law_406 : decode code 406 = .ok (.invokevirtual 94, 3) := by decide +kernel
theorem d_l_law_409 : decode code 409 = .ok (.aload_n 2, 1) := by decide +kernel
theorem d_l_law_410 : decode code 410 = .ok (.invokevirtual 97, 3) := by decide +kernel
theorem d_l_law_413 : decode code 413 = .ok (.if_icmp .eq 481, 3) := by decide +kernel
theorem d_l_law_416 : decode code 416 = .ok (.iconst 0, 1) := by decide +kernel
theorem d_l_law_417 : decode code 417 = .ok (.ireturn, 1) := by decide +kernel
theorem d_l_law_418 : decode code 418 = .ok (.aload_n 1, 1) := by decide +kernel
theorem d_l_law_419 : decode code 419 = .ok (.aload_n 3, 1) := by decide +kernel
theorem d_l_law_420 : decode code 420 = .ok (.invokestatic 98, 3) := by decide +kernel
theorem d_l_law_423 : decode code 423 = .ok (.istore 5, 2) := by decide +kernel
theorem d_l_law_425 : decode code 425 = .ok (.aload_n 2, 1) := by decide +kernel
theorem d_l_law_426 : decode code 426 = .ok (.invokevirtual 101, 3) := by decide +kernel
theorem d_l_law_429 : decode code 429 = .ok (.istore 6, 2) := by decide +kernel
theorem d_l_law_431 : decode code 431 = .ok (.aload_n 2, 1) := by decide +kernel
theorem d_l_law_432 : decode code 432 = .ok (.invokevirtual 72, 3) := by decide +kernel
theorem d_l_law_435 : decode code 435 = .ok (.iload 5, 2) := by decide +kernel
theorem d_l_law_437 : decode code 437 = .ok (.if_icmp .eq 5, 3) := by decide +kernel
theorem d_l_law_440 : decode code 440 = .ok (.iconst 0, 1) := by decide +kernel
theorem d_l_law_441 : decode code 441 = .ok (.ireturn, 1) := by decide +kernel
theorem d_l_law_442 : decode code 442 = .ok (.iload 5, 2) := by decide +kernel
theorem d_l_law_444 : decode code 444 = .ok (.ifCond .ne 15, 3) := by decide +kernel
theorem d_l_law_447 : decode code 447 = .ok (.aload_n 3, 1) := by decide +kernel
theorem d_l_law_448 : decode code 448 = .ok (.iconst 0, 1) := by decide +kernel
theorem d_l_law_449 : decode code 449 = .ok (.laload, 1) := by decide +kernel
theorem d_l_law_450 : decode code 450 = .ok (.iload 6, 2) := by decide +kernel
theorem d_l_law_452 : decode code 452 = .ok (.i2l, 1) := by decide +kernel
theorem d_l_law_453 : decode code 453 = .ok (.lcmp, 1) := by decide +kernel
theorem d_l_law_454 : decode code 454 = .ok (.ifCond .eq 5, 3) := by decide +kernel
theorem d_l_law_457 : decode code 457 = .ok (.iconst 0, 1) := by decide +kernel
theorem d_l_law_458 : decode code 458 = .ok (.ireturn, 1) := by decide +kernel
theorem d_l_law_459 : decode code 459 = .ok (.goto 435, 3) := by decide +kernel
theorem d_l_law_462 : decode code 462 = .ok (.aload_n 1, 1) := by decide +kernel
theorem d_l_law_463 : decode code 463 = .ok (.aload_n 0, 1) := by decide +kernel
theorem d_l_law_464 : decode code 464 = .ok (.iload 4, 2) := by decide +kernel
theorem d_l_law_466 : decode code 466 = .ok (.iconst 1, 1) := by decide +kernel
theorem d_l_law_467 : decode code 467 = .ok (.iadd, 1) := by decide +kernel
theorem d_l_law_468 : decode code 468 = .ok (.iaload, 1) := by decide +kernel
theorem d_l_law_469 : decode code 469 = .ok (.aload_n 0, 1) := by decide +kernel
theorem d_l_law_470 : decode code 470 = .ok (.iload 4, 2) := by decide +kernel
theorem d_l_law_472 : decode code 472 = .ok (.iconst 2, 1) := by decide +kernel
theorem d_l_law_473 : decode code 473 = .ok (.iadd, 1) := by decide +kernel
theorem d_l_law_474 : decode code 474 = .ok (.iaload, 1) := by decide +kernel
theorem d_l_law_475 : decode code 475 = .ok (.invokestatic 102, 3) := by decide +kernel
theorem d_l_law_478 : decode code 478 = .ok (.istore 5, 2) := by decide +kernel
theorem d_l_law_480 : decode code 480 = .ok (.aload_n 2, 1) := by decide +kernel
theorem d_l_law_481 : decode code 481 = .ok (.aload_n 0, 1) := by decide +kernel
theorem d_l_law_482 : decode code 482 = .ok (.iload 4, 2) := by decide +kernel
theorem d_l_law_484 : decode code 484 = .ok (.iconst 1, 1) := by decide +kernel
theorem d_l_law_485 : decode code 485 = .ok (.iadd, 1) := by decide +kernel
theorem d_l_law_486 : decode code 486 = .ok (.iaload, 1) := by decide +kernel
theorem d_l_law_487 : decode code 487 = .ok (.aload_n 0, 1) := by decide +kernel
theorem d_l_law_488 : decode code 488 = .ok (.iload 4, 2) := by decide +kernel
theorem d_l_law_490 : decode code 490 = .ok (.iconst 2, 1) := by decide +kernel
theorem d_l_law_491 : decode code 491 = .ok (.iadd, 1) := by decide +kernel
theorem d_l_law_492 : decode code 492 = .ok (.iaload, 1) := by decide +kernel
theorem d_l_law_493 : decode code 493 = .ok (.invokevirtual 104, 3) := by decide +kernel
theorem d_l_law_496 : decode code 496 = .ok (.aload_n 2, 1) := by decide +kernel
theorem d_l_law_497 : decode code 497 = .ok (.invokevirtual 72, 3) := by decide +kernel
theorem d_l_law_500 : decode code 500 = .ok (.iload 5, 2) := by decide +kernel
theorem d_l_law_502 : decode code 502 = .ok (.if_icmp .eq 5, 3) := by decide +kernel
theorem d_l_law_505 : decode code 505 = .ok (.iconst 0, 1) := by decide +kernel
theorem d_l_law_506 : decode code 506 = .ok (.ireturn, 1) := by decide +kernel
theorem d_l_law_507 : decode code 507 = .ok (.goto 387, 3) := by decide +kernel
theorem d_l_law_510 : decode code 510 = .ok (.aload_n 1, 1) := by decide +kernel
theorem d_l_law_511 : decode code 511 = .ok (.aload_n 0, 1) := by decide +kernel
theorem d_l_law_512 : decode code 512 = .ok (.iload 4, 2) := by decide +kernel
theorem d_l_law_514 : decode code 514 = .ok (.iconst 1, 1) := by decide +kernel
theorem d_l_law_515 : decode code 515 = .ok (.iadd, 1) := by decide +kernel
theorem d_l_law_516 : decode code 516 = .ok (.iaload, 1) := by decide +kernel
theorem d_l_law_517 : decode code 517 = .ok (.aload_n 3, 1) := by decide +kernel
theorem d_l_law_518 : decode code 518 = .ok (.invokestatic 105, 3) := by decide +kernel
theorem d_l_law_521 : decode code 521 = .ok (.istore 5, 2) := by decide +kernel
theorem d_l_law_523 : decode code 523 = .ok (.aload_n 2, 1) := by decide +kernel
theorem d_l_law_524 : decode code 524 = .ok (.aload_n 0, 1) := by decide +kernel
theorem d_l_law_525 : decode code 525 = .ok (.iload 4, 2) := by decide +kernel
theorem d_l_law_527 : decode code 527 = .ok (.iconst 1, 1) := by decide +kernel
theorem d_l_law_528 : decode code 528 = .ok (.iadd, 1) := by decide +kernel
theorem d_l_law_529 : decode code 529 = .ok (.iaload, 1) := by decide +kernel
theorem d_l_law_530 : decode code 530 = .ok (.invokevirtual 108, 3) := by decide +kernel
theorem d_l_law_533 : decode code 533 = .ok (.istore 6, 2) := by decide +kernel
theorem d_l_law_535 : decode code 535 = .ok (.aload_n 2, 1) := by decide +kernel
theorem d_l_law_536 : decode code 536 = .ok (.invokevirtual 72, 3) := by decide +kernel
theorem d_l_law_539 : decode code 539 = .ok (.iload 5, 2) := by decide +kernel
theorem d_l_law_541 : decode code 541 = .ok (.if_icmp .eq 5, 3) := by decide +kernel
theorem d_l_law_544 : decode code 544 = .ok (.iconst 0, 1) := by decide +kernel
theorem d_l_law_545 : decode code 545 = .ok (.ireturn, 1) := by decide +kernel
theorem d_l_law_546 : decode code 546 = .ok (.iload 5, 2) := by decide +kernel
theorem d_l_law_548 : decode code 548 = .ok (.ifCond .ne 15, 3) := by decide +kernel
theorem d_l_law_551 : decode code 551 = .ok (.aload_n 3, 1) := by decide +kernel
theorem d_l_law_552 : decode code 552 = .ok (.iconst 0, 1) := by decide +kernel
theorem d_l_law_553 : decode code 553 = .ok (.laload, 1) := by decide +kernel
theorem d_l_law_554 : decode code 554 = .ok (.iload 6, 2) := by decide +kernel
theorem d_l_law_556 : decode code 556 = .ok (.i2l, 1) := by decide +kernel
theorem d_l_law_557 : decode code 557 = .ok (.lcmp, 1) := by decide +kernel
theorem d_l_law_558 : decode code 558 = .ok (.ifCond .eq 5, 3) := by decide +kernel
theorem d_l_law_561 : decode code 561 = .ok (.iconst 0, 1) := by decide +kernel
theorem d_l_law_562 : decode code 562 = .ok (.ireturn, 1) := by decide +kernel
theorem d_l_law_563 : decode code 563 = .ok (.goto 331, 3) := by decide +kernel
theorem d_l_law_566 : decode code 566 = .ok (.aload_n 1, 1) := by decide +kernel
theorem d_l_law_567 : decode code 567 = .ok (.aload_n 0, 1) := by decide +kernel
theorem d_l_law_568 : decode code 568 = .ok (.iload 4, 2) := by decide +kernel
theorem d_l_law_570 : decode code 570 = .ok (.iconst 1, 1) := by decide +kernel
theorem d_l_law_571 : decode code 571 = .ok (.iadd, 1) := by decide +kernel
theorem d_l_law_572 : decode code 572 = .ok (.iaload, 1) := by decide +kernel
theorem d_l_law_573 : decode code 573 = .ok (.aload_n 0, 1) := by decide +kernel
theorem d_l_law_574 : decode code 574 = .ok (.iload 4, 2) := by decide +kernel
theorem d_l_law_576 : decode code 576 = .ok (.iconst 2, 1) := by decide +kernel
theorem d_l_law_577 : decode code 577 = .ok (.iadd, 1) := by decide +kernel
theorem d_l_law_578 : decode code 578 = .ok (.iaload, 1) := by decide +kernel
theorem d_l_law_579 : decode code 579 = .ok (.aload_n 3, 1) := by decide +kernel
theorem d_l_law_580 : decode code 580 = .ok (.invokestatic 109, 3) := by decide +kernel
theorem d_l_law_583 : decode code 583 = .ok (.istore 5, 2) := by decide +kernel
theorem d_l_law_585 : decode code 585 = .ok (.aload_n 2, 1) := by decide +kernel
theorem d_l_law_586 : decode code 586 = .ok (.aload_n 0, 1) := by decide +kernel
theorem d_l_law_587 : decode code 587 = .ok (.iload 4, 2) := by decide +kernel
theorem d_l_law_589 : decode code 589 = .ok (.iconst 1, 1) := by decide +kernel
theorem d_l_law_590 : decode code 590 = .ok (.iadd, 1) := by decide +kernel
theorem d_l_law_591 : decode code 591 = .ok (.iaload, 1) := by decide +kernel
theorem d_l_law_592 : decode code 592 = .ok (.aload_n 0, 1) := by decide +kernel
theorem d_l_law_593 : decode code 593 = .ok (.iload 4, 2) := by decide +kernel
theorem d_l_law_595 : decode code 595 = .ok (.iconst 2, 1) := by decide +kernel
theorem d_l_law_596 : decode code 596 = .ok (.iadd, 1) := by decide +kernel
theorem d_l_law_597 : decode code 597 = .ok (.iaload, 1) := by decide +kernel
theorem d_l_law_598 : decode code 598 = .ok (.invokevirtual 111, 3) := by decide +kernel
theorem d_l_law_601 : decode code 601 = .ok (.istore 6, 2) := by decide +kernel
theorem d_l_law_603 : decode code 603 = .ok (.aload_n 2, 1) := by decide +kernel
theorem d_l_law_604 : decode code 604 = .ok (.invokevirtual 72, 3) := by decide +kernel
theorem d_l_law_607 : decode code 607 = .ok (.iload 5, 2) := by decide +kernel
theorem d_l_law_609 : decode code 609 = .ok (.if_icmp .eq 5, 3) := by decide +kernel
theorem d_l_law_612 : decode code 612 = .ok (.iconst 0, 1) := by decide +kernel
theorem d_l_law_613 : decode code 613 = .ok (.ireturn, 1) := by decide +kernel
theorem d_l_law_614 : decode code 614 = .ok (.iload 5, 2) := by decide +kernel
theorem d_l_law_616 : decode code 616 = .ok (.ifCond .ne 15, 3) := by decide +kernel
theorem d_l_law_619 : decode code 619 = .ok (.aload_n 3, 1) := by decide +kernel
theorem d_l_law_620 : decode code 620 = .ok (.iconst 0, 1) := by decide +kernel
theorem d_l_law_621 : decode code 621 = .ok (.laload, 1) := by decide +kernel
theorem d_l_law_622 : decode code 622 = .ok (.iload 6, 2) := by decide +kernel
theorem d_l_law_624 : decode code 624 = .ok (.i2l, 1) := by decide +kernel
theorem d_l_law_625 : decode code 625 = .ok (.lcmp, 1) := by decide +kernel
theorem d_l_law_626 : decode code 626 = .ok (.ifCond .eq 5, 3) := by decide +kernel
theorem d_l_law_629 : decode code 629 = .ok (.iconst 0, 1) := by decide +kernel
theorem d_l_law_630 : decode code 630 = .ok (.ireturn, 1) := by decide +kernel
theorem d_l_law_631 : decode code 631 = .ok (.goto 263, 3) := by decide +kernel
theorem d_l_law_634 : decode code 634 = .ok (.aload_n 1, 1) := by decide +kernel
theorem d_l_law_635 : decode code 635 = .ok (.aload_n 0, 1) := by decide +kernel
theorem d_l_law_636 : decode code 636 = .ok (.iload 4, 2) := by decide +kernel
theorem d_l_law_638 : decode code 638 = .ok (.iconst 1, 1) := by decide +kernel
theorem d_l_law_639 : decode code 639 = .ok (.iadd, 1) := by decide +kernel
theorem d_l_law_640 : decode code 640 = .ok (.iaload, 1) := by decide +kernel
theorem d_l_law_641 : decode code 641 = .ok (.aload_n 0, 1) := by decide +kernel
theorem d_l_law_642 : decode code 642 = .ok (.iload 4, 2) := by decide +kernel
theorem d_l_law_644 : decode code 644 = .ok (.iconst 2, 1) := by decide +kernel
theorem d_l_law_645 : decode code 645 = .ok (.iadd, 1) := by decide +kernel
theorem d_l_law_646 : decode code 646 = .ok (.iaload, 1) := by decide +kernel
theorem d_l_law_647 : decode code 647 = .ok (.aload_n 3, 1) := by decide +kernel
theorem d_l_law_648 : decode code 648 = .ok (.invokestatic 112, 3) := by decide +kernel
theorem d_l_law_651 : decode code 651 = .ok (.istore 5, 2) := by decide +kernel
theorem d_l_law_653 : decode code 653 = .ok (.aload_n 2, 1) := by decide +kernel
theorem d_l_law_654 : decode code 654 = .ok (.aload_n 0, 1) := by decide +kernel
theorem d_l_law_655 : decode code 655 = .ok (.iload 4, 2) := by decide +kernel
theorem d_l_law_657 : decode code 657 = .ok (.iconst 1, 1) := by decide +kernel
theorem d_l_law_658 : decode code 658 = .ok (.iadd, 1) := by decide +kernel
theorem d_l_law_659 : decode code 659 = .ok (.iaload, 1) := by decide +kernel
theorem d_l_law_660 : decode code 660 = .ok (.aload_n 0, 1) := by decide +kernel
theorem d_l_law_661 : decode code 661 = .ok (.iload 4, 2) := by decide +kernel
theorem d_l_law_663 : decode code 663 = .ok (.iconst 2, 1) := by decide +kernel
theorem d_l_law_664 : decode code 664 = .ok (.iadd, 1) := by decide +kernel
theorem d_l_law_665 : decode code 665 = .ok (.iaload, 1) := by decide +kernel
theorem d_l_law_666 : decode code 666 = .ok (.invokevirtual 114, 3) := by decide +kernel
theorem d_l_law_669 : decode code 669 = .ok (.istore 6, 2) := by decide +kernel
theorem d_l_law_671 : decode code 671 = .ok (.aload_n 2, 1) := by decide +kernel
theorem d_l_law_672 : decode code 672 = .ok (.invokevirtual 72, 3) := by decide +kernel
theorem d_l_law_675 : decode code 675 = .ok (.iload 5, 2) := by decide +kernel
theorem d_l_law_677 : decode code 677 = .ok (.if_icmp .eq 5, 3) := by decide +kernel
theorem d_l_law_680 : decode code 680 = .ok (.iconst 0, 1) := by decide +kernel
theorem d_l_law_681 : decode code 681 = .ok (.ireturn, 1) := by decide +kernel
theorem d_l_law_682 : decode code 682 = .ok (.iload 5, 2) := by decide +kernel
theorem d_l_law_684 : decode code 684 = .ok (.ifCond .ne 15, 3) := by decide +kernel
theorem d_l_law_687 : decode code 687 = .ok (.aload_n 3, 1) := by decide +kernel
theorem d_l_law_688 : decode code 688 = .ok (.iconst 0, 1) := by decide +kernel
theorem d_l_law_689 : decode code 689 = .ok (.laload, 1) := by decide +kernel
theorem d_l_law_690 : decode code 690 = .ok (.iload 6, 2) := by decide +kernel
theorem d_l_law_692 : decode code 692 = .ok (.i2l, 1) := by decide +kernel
theorem d_l_law_693 : decode code 693 = .ok (.lcmp, 1) := by decide +kernel
theorem d_l_law_694 : decode code 694 = .ok (.ifCond .eq 5, 3) := by decide +kernel
theorem d_l_law_697 : decode code 697 = .ok (.iconst 0, 1) := by decide +kernel
theorem d_l_law_698 : decode code 698 = .ok (.ireturn, 1) := by decide +kernel
theorem d_l_law_699 : decode code 699 = .ok (.goto 195, 3) := by decide +kernel
theorem d_l_law_702 : decode code 702 = .ok (.aload_n 1, 1) := by decide +kernel
theorem d_l_law_703 : decode code 703 = .ok (.aload_n 0, 1) := by decide +kernel
theorem d_l_law_704 : decode code 704 = .ok (.iload 4, 2) := by decide +kernel
theorem d_l_law_706 : decode code 706 = .ok (.iconst 1, 1) := by decide +kernel
theorem d_l_law_707 : decode code 707 = .ok (.iadd, 1) := by decide +kernel
theorem d_l_law_708 : decode code 708 = .ok (.iaload, 1) := by decide +kernel
theorem d_l_law_709 : decode code 709 = .ok (.aload_n 0, 1) := by decide +kernel
theorem d_l_law_710 : decode code 710 = .ok (.iload 4, 2) := by decide +kernel
theorem d_l_law_712 : decode code 712 = .ok (.iconst 2, 1) := by decide +kernel
theorem d_l_law_713 : decode code 713 = .ok (.iadd, 1) := by decide +kernel
theorem d_l_law_714 : decode code 714 = .ok (.iaload, 1) := by decide +kernel
theorem d_l_law_715 : decode code 715 = .ok (.aload_n 0, 1) := by decide +kernel
theorem d_l_law_716 : decode code 716 = .ok (.iload 4, 2) := by decide +kernel
theorem d_l_law_718 : decode code 718 = .ok (.iconst 3, 1) := by decide +kernel
theorem d_l_law_719 : decode code 719 = .ok (.iadd, 1) := by decide +kernel
theorem d_l_law_720 : decode code 720 = .ok (.iaload, 1) := by decide +kernel
theorem d_l_law_721 : decode code 721 = .ok (.aload_n 3, 1) := by decide +kernel
theorem d_l_law_722 : decode code 722 = .ok (.invokestatic 115, 3) := by decide +kernel
theorem d_l_law_725 : decode code 725 = .ok (.istore 5, 2) := by decide +kernel
theorem d_l_law_727 : decode code 727 = .ok (.aload_n 2, 1) := by decide +kernel
theorem d_l_law_728 : decode code 728 = .ok (.aload_n 0, 1) := by decide +kernel
theorem d_l_law_729 : decode code 729 = .ok (.iload 4, 2) := by decide +kernel
theorem d_l_law_731 : decode code 731 = .ok (.iconst 1, 1) := by decide +kernel
theorem d_l_law_732 : decode code 732 = .ok (.iadd, 1) := by decide +kernel
theorem d_l_law_733 : decode code 733 = .ok (.iaload, 1) := by decide +kernel
theorem d_l_law_734 : decode code 734 = .ok (.aload_n 0, 1) := by decide +kernel
theorem d_l_law_735 : decode code 735 = .ok (.iload 4, 2) := by decide +kernel
theorem d_l_law_737 : decode code 737 = .ok (.iconst 2, 1) := by decide +kernel
theorem d_l_law_738 : decode code 738 = .ok (.iadd, 1) := by decide +kernel
theorem d_l_law_739 : decode code 739 = .ok (.iaload, 1) := by decide +kernel
theorem d_l_law_740 : decode code 740 = .ok (.aload_n 0, 1) := by decide +kernel
theorem d_l_law_741 : decode code 741 = .ok (.iload 4, 2) := by decide +kernel
theorem d_l_law_743 : decode code 743 = .ok (.iconst 3, 1) := by decide +kernel
theorem d_l_law_744 : decode code 744 = .ok (.iadd, 1) := by decide +kernel
theorem d_l_law_745 : decode code 745 = .ok (.iaload, 1) := by decide +kernel
theorem d_l_law_746 : decode code 746 = .ok (.invokevirtual 117, 3) := by decide +kernel
theorem d_l_law_749 : decode code 749 = .ok (.istore 6, 2) := by decide +kernel
theorem d_l_law_751 : decode code 751 = .ok (.aload_n 2, 1) := by decide +kernel
theorem d_l_law_752 : decode code 752 = .ok (.invokevirtual 72, 3) := by decide +kernel
theorem d_l_law_755 : decode code 755 = .ok (.iload 5, 2) := by decide +kernel
theorem d_l_law_757 : decode code 757 = .ok (.if_icmp .eq 5, 3) := by decide +kernel
theorem d_l_law_760 : decode code 760 = .ok (.iconst 0, 1) := by decide +kernel
theorem d_l_law_761 : decode code 761 = .ok (.ireturn, 1) := by decide +kernel
theorem d_l_law_762 : decode code 762 = .ok (.iload 5, 2) := by decide +kernel
theorem d_l_law_764 : decode code 764 = .ok (.ifCond .ne 15, 3) := by decide +kernel
theorem d_l_law_767 : decode code 767 = .ok (.aload_n 3, 1) := by decide +kernel
theorem d_l_law_768 : decode code 768 = .ok (.iconst 0, 1) := by decide +kernel
theorem d_l_law_769 : decode code 769 = .ok (.laload, 1) := by decide +kernel
theorem d_l_law_770 : decode code 770 = .ok (.iload 6, 2) := by decide +kernel
theorem d_l_law_772 : decode code 772 = .ok (.i2l, 1) := by decide +kernel
theorem d_l_law_773 : decode code 773 = .ok (.lcmp, 1) := by decide +kernel
theorem d_l_law_774 : decode code 774 = .ok (.ifCond .eq 5, 3) := by decide +kernel
theorem d_l_law_777 : decode code 777 = .ok (.iconst 0, 1) := by decide +kernel
theorem d_l_law_778 : decode code 778 = .ok (.ireturn, 1) := by decide +kernel
theorem d_l_law_779 : decode code 779 = .ok (.goto 115, 3) := by decide +kernel
theorem d_l_law_782 : decode code 782 = .ok (.aload_n 1, 1) := by decide +kernel
theorem d_l_law_783 : decode code 783 = .ok (.aload_n 0, 1) := by decide +kernel
theorem d_l_law_784 : decode code 784 = .ok (.iload 4, 2) := by decide +kernel
theorem d_l_law_786 : decode code 786 = .ok (.iconst 1, 1) := by decide +kernel
theorem d_l_law_787 : decode code 787 = .ok (.iadd, 1) := by decide +kernel
theorem d_l_law_788 : decode code 788 = .ok (.iaload, 1) := by decide +kernel
theorem d_l_law_789 : decode code 789 = .ok (.aload_n 3, 1) := by decide +kernel
theorem d_l_law_790 : decode code 790 = .ok (.invokestatic 118, 3) := by decide +kernel
theorem d_l_law_793 : decode code 793 = .ok (.istore 5, 2) := by decide +kernel
theorem d_l_law_795 : decode code 795 = .ok (.aload_n 2, 1) := by decide +kernel
theorem d_l_law_796 : decode code 796 = .ok (.aload_n 0, 1) := by decide +kernel
theorem d_l_law_797 : decode code 797 = .ok (.iload 4, 2) := by decide +kernel
theorem d_l_law_799 : decode code 799 = .ok (.iconst 1, 1) := by decide +kernel
theorem d_l_law_800 : decode code 800 = .ok (.iadd, 1) := by decide +kernel
theorem d_l_law_801 : decode code 801 = .ok (.iaload, 1) := by decide +kernel
theorem d_l_law_802 : decode code 802 = .ok (.invokevirtual 120, 3) := by decide +kernel
theorem d_l_law_805 : decode code 805 = .ok (.istore 6, 2) := by decide +kernel
theorem d_l_law_807 : decode code 807 = .ok (.aload_n 2, 1) := by decide +kernel
theorem d_l_law_808 : decode code 808 = .ok (.invokevirtual 72, 3) := by decide +kernel
theorem d_l_law_811 : decode code 811 = .ok (.iload 5, 2) := by decide +kernel
theorem d_l_law_813 : decode code 813 = .ok (.if_icmp .eq 5, 3) := by decide +kernel
theorem d_l_law_816 : decode code 816 = .ok (.iconst 0, 1) := by decide +kernel
theorem d_l_law_817 : decode code 817 = .ok (.ireturn, 1) := by decide +kernel
theorem d_l_law_818 : decode code 818 = .ok (.iload 5, 2) := by decide +kernel
theorem d_l_law_820 : decode code 820 = .ok (.ifCond .ne 15, 3) := by decide +kernel
theorem d_l_law_823 : decode code 823 = .ok (.aload_n 3, 1) := by decide +kernel
theorem d_l_law_824 : decode code 824 = .ok (.iconst 0, 1) := by decide +kernel
theorem d_l_law_825 : decode code 825 = .ok (.laload, 1) := by decide +kernel
theorem d_l_law_826 : decode code 826 = .ok (.iload 6, 2) := by decide +kernel
theorem d_l_law_828 : decode code 828 = .ok (.i2l, 1) := by decide +kernel
theorem d_l_law_829 : decode code 829 = .ok (.lcmp, 1) := by decide +kernel
theorem d_l_law_830 : decode code 830 = .ok (.ifCond .eq 5, 3) := by decide +kernel
theorem d_l_law_833 : decode code 833 = .ok (.iconst 0, 1) := by decide +kernel
theorem d_l_law_834 : decode code 834 = .ok (.ireturn, 1) := by decide +kernel
theorem d_l_law_835 : decode code 835 = .ok (.goto 59, 3) := by decide +kernel
theorem d_l_law_838 : decode code 838 = .ok (.aload_n 1, 1) := by decide +kernel
theorem d_l_law_839 : decode code 839 = .ok (.aload_n 0, 1) := by decide +kernel
theorem d_l_law_840 : decode code 840 = .ok (.iload 4, 2) := by decide +kernel
theorem d_l_law_842 : decode code 842 = .ok (.iconst 1, 1) := by decide +kernel
theorem d_l_law_843 : decode code 843 = .ok (.iadd, 1) := by decide +kernel
theorem d_l_law_844 : decode code 844 = .ok (.iaload, 1) := by decide +kernel
theorem d_l_law_845 : decode code 845 = .ok (.aload_n 3, 1) := by decide +kernel
theorem d_l_law_846 : decode code 846 = .ok (.invokestatic 121, 3) := by decide +kernel
theorem d_l_law_849 : decode code 849 = .ok (.istore 5, 2) := by decide +kernel
theorem d_l_law_851 : decode code 851 = .ok (.aload_n 2, 1) := by decide +kernel
theorem d_l_law_852 : decode code 852 = .ok (.aload_n 0, 1) := by decide +kernel
theorem d_l_law_853 : decode code 853 = .ok (.iload 4, 2) := by decide +kernel
theorem d_l_law_855 : decode code 855 = .ok (.iconst 1, 1) := by decide +kernel
theorem d_l_law_856 : decode code 856 = .ok (.iadd, 1) := by decide +kernel
theorem d_l_law_857 : decode code 857 = .ok (.iaload, 1) := by decide +kernel
theorem d_l_law_858 : decode code 858 = .ok (.invokevirtual 123, 3) := by decide +kernel
theorem d_l_law_861 : decode code 861 = .ok (.istore 6, 2) := by decide +kernel
theorem d_l_law_863 : decode code 863 = .ok (.aload_n 2, 1) := by decide +kernel
theorem d_l_law_864 : decode code 864 = .ok (.invokevirtual 72, 3) := by decide +kernel
theorem d_l_law_867 : decode code 867 = .ok (.iload 5, 2) := by decide +kernel
theorem d_l_law_869 : decode code 869 = .ok (.if_icmp .eq 5, 3) := by decide +kernel
theorem d_l_law_872 : decode code 872 = .ok (.iconst 0, 1) := by decide +kernel
theorem d_l_law_873 : decode code 873 = .ok (.ireturn, 1) := by decide +kernel
theorem d_l_law_874 : decode code 874 = .ok (.iload 5, 2) := by decide +kernel
theorem d_l_law_876 : decode code 876 = .ok (.ifCond .ne 15, 3) := by decide +kernel
theorem d_l_law_879 : decode code 879 = .ok (.aload_n 3, 1) := by decide +kernel
theorem d_l_law_880 : decode code 880 = .ok (.iconst 0, 1) := by decide +kernel
theorem d_l_law_881 : decode code 881 = .ok (.laload, 1) := by decide +kernel
theorem d_l_law_882 : decode code 882 = .ok (.iload 6, 2) := by decide +kernel
theorem d_l_law_884 : decode code 884 = .ok (.i2l, 1) := by decide +kernel
theorem d_l_law_885 : decode code 885 = .ok (.lcmp, 1) := by decide +kernel
theorem d_l_law_886 : decode code 886 = .ok (.ifCond .eq 5, 3) := by decide +kernel
theorem d_l_law_889 : decode code 889 = .ok (.iconst 0, 1) := by decide +kernel
theorem d_l_law_890 : decode code 890 = .ok (.ireturn, 1) := by decide +kernel
theorem d_l_law_891 : decode code 891 = .ok (.goto 3, 3) := by decide +kernel
theorem d_l_law_894 : decode code 894 = .ok (.iinc 4 4, 3) := by decide +kernel
theorem d_l_law_897 : decode code 897 = .ok (.goto (-874), 3) := by decide +kernel
theorem d_l_law_900 : decode code 900 = .ok (.iconst 1, 1) := by decide +kernel
theorem d_l_law_901 : decode code 901 = .ok (.ireturn, 1) := by decide +kernel
