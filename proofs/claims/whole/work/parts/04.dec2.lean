theorem kd_L_make_0 : decode kb_L_make 0 = .ok (.aload_n 0, 1) := by decide +kernel
theorem kd_L_make_1 : decode kb_L_make 1 = .ok (.iload_n 1, 1) := by decide +kernel
theorem kd_L_make_2 : decode kb_L_make 2 = .ok (.iload_n 2, 1) := by decide +kernel
theorem kd_L_make_3 : decode kb_L_make 3 = .ok (.iload_n 3, 1) := by decide +kernel
theorem kd_L_make_4 : decode kb_L_make 4 = .ok (.iload 4, 2) := by decide +kernel
theorem kd_L_make_6 : decode kb_L_make 6 = .ok (.iload 5, 2) := by decide +kernel
theorem kd_L_make_8 : decode kb_L_make 8 = .ok (.invokevirtual 7, 3) := by decide +kernel
theorem kd_L_make_11 : decode kb_L_make 11 = .ok (.goto 7, 3) := by decide +kernel
theorem kd_L_make_14 : decode kb_L_make 14 = .ok (.astore 6, 2) := by decide +kernel
theorem kd_L_make_16 : decode kb_L_make 16 = .ok (.iconst 1, 1) := by decide +kernel
theorem kd_L_make_17 : decode kb_L_make 17 = .ok (.ireturn, 1) := by decide +kernel
theorem kd_L_make_18 : decode kb_L_make 18 = .ok (.iconst 0, 1) := by decide +kernel
theorem kd_L_make_19 : decode kb_L_make 19 = .ok (.ireturn, 1) := by decide +kernel
theorem kd_L_access_0 : decode kb_L_access 0 = .ok (.aload_n 3, 1) := by decide +kernel
theorem kd_L_access_1 : decode kb_L_access 1 = .ok (.iconst 0, 1) := by decide +kernel
theorem kd_L_access_2 : decode kb_L_access 2 = .ok (.aload_n 0, 1) := by decide +kernel
theorem kd_L_access_3 : decode kb_L_access 3 = .ok (.iload_n 1, 1) := by decide +kernel
theorem kd_L_access_4 : decode kb_L_access 4 = .ok (.iload_n 2, 1) := by decide +kernel
theorem kd_L_access_5 : decode kb_L_access 5 = .ok (.invokevirtual 15, 3) := by decide +kernel
theorem kd_L_access_8 : decode kb_L_access 8 = .ok (.i2l, 1) := by decide +kernel
theorem kd_L_access_9 : decode kb_L_access 9 = .ok (.lastore, 1) := by decide +kernel
theorem kd_L_access_10 : decode kb_L_access 10 = .ok (.goto 11, 3) := by decide +kernel
theorem kd_L_access_13 : decode kb_L_access 13 = .ok (.astore 4, 2) := by decide +kernel
theorem kd_L_access_15 : decode kb_L_access 15 = .ok (.iconst 1, 1) := by decide +kernel
theorem kd_L_access_16 : decode kb_L_access 16 = .ok (.ireturn, 1) := by decide +kernel
theorem kd_L_access_17 : decode kb_L_access 17 = .ok (.astore 4, 2) := by decide +kernel
theorem kd_L_access_19 : decode kb_L_access 19 = .ok (.iconst 2, 1) := by decide +kernel
theorem kd_L_access_20 : decode kb_L_access 20 = .ok (.ireturn, 1) := by decide +kernel
theorem kd_L_access_21 : decode kb_L_access 21 = .ok (.iconst 0, 1) := by decide +kernel
theorem kd_L_access_22 : decode kb_L_access 22 = .ok (.ireturn, 1) := by decide +kernel
theorem kd_L_flush_0 : decode kb_L_flush 0 = .ok (.aload_n 2, 1) := by decide +kernel
theorem kd_L_flush_1 : decode kb_L_flush 1 = .ok (.iconst 0, 1) := by decide +kernel
theorem kd_L_flush_2 : decode kb_L_flush 2 = .ok (.aload_n 0, 1) := by decide +kernel
theorem kd_L_flush_3 : decode kb_L_flush 3 = .ok (.iload_n 1, 1) := by decide +kernel
theorem kd_L_flush_4 : decode kb_L_flush 4 = .ok (.invokevirtual 21, 3) := by decide +kernel
theorem kd_L_flush_7 : decode kb_L_flush 7 = .ok (.i2l, 1) := by decide +kernel
theorem kd_L_flush_8 : decode kb_L_flush 8 = .ok (.lastore, 1) := by decide +kernel
theorem kd_L_flush_9 : decode kb_L_flush 9 = .ok (.goto 6, 3) := by decide +kernel
theorem kd_L_flush_12 : decode kb_L_flush 12 = .ok (.astore_n 3, 1) := by decide +kernel
theorem kd_L_flush_13 : decode kb_L_flush 13 = .ok (.iconst 1, 1) := by decide +kernel
theorem kd_L_flush_14 : decode kb_L_flush 14 = .ok (.ireturn, 1) := by decide +kernel
theorem kd_L_flush_15 : decode kb_L_flush 15 = .ok (.iconst 0, 1) := by decide +kernel
theorem kd_L_flush_16 : decode kb_L_flush 16 = .ok (.ireturn, 1) := by decide +kernel
theorem kd_L_place_0 : decode kb_L_place 0 = .ok (.aload 5, 2) := by decide +kernel
theorem kd_L_place_2 : decode kb_L_place 2 = .ok (.iconst 0, 1) := by decide +kernel
theorem kd_L_place_3 : decode kb_L_place 3 = .ok (.aload_n 0, 1) := by decide +kernel
theorem kd_L_place_4 : decode kb_L_place 4 = .ok (.iload_n 1, 1) := by decide +kernel
theorem kd_L_place_5 : decode kb_L_place 5 = .ok (.iload_n 2, 1) := by decide +kernel
theorem kd_L_place_6 : decode kb_L_place 6 = .ok (.iload_n 3, 1) := by decide +kernel
theorem kd_L_place_7 : decode kb_L_place 7 = .ok (.iload 4, 2) := by decide +kernel
theorem kd_L_place_9 : decode kb_L_place 9 = .ok (.invokevirtual 27, 3) := by decide +kernel
theorem kd_L_place_12 : decode kb_L_place 12 = .ok (.i2l, 1) := by decide +kernel
theorem kd_L_place_13 : decode kb_L_place 13 = .ok (.lastore, 1) := by decide +kernel
theorem kd_L_place_14 : decode kb_L_place 14 = .ok (.goto 15, 3) := by decide +kernel
theorem kd_L_place_17 : decode kb_L_place 17 = .ok (.astore 6, 2) := by decide +kernel
theorem kd_L_place_19 : decode kb_L_place 19 = .ok (.iconst 1, 1) := by decide +kernel
theorem kd_L_place_20 : decode kb_L_place 20 = .ok (.ireturn, 1) := by decide +kernel
theorem kd_L_place_21 : decode kb_L_place 21 = .ok (.astore 6, 2) := by decide +kernel
theorem kd_L_place_23 : decode kb_L_place 23 = .ok (.iconst 2, 1) := by decide +kernel
theorem kd_L_place_24 : decode kb_L_place 24 = .ok (.ireturn, 1) := by decide +kernel
theorem kd_L_place_25 : decode kb_L_place 25 = .ok (.astore 6, 2) := by decide +kernel
theorem kd_L_place_27 : decode kb_L_place 27 = .ok (.iconst 3, 1) := by decide +kernel
theorem kd_L_place_28 : decode kb_L_place 28 = .ok (.ireturn, 1) := by decide +kernel
theorem kd_L_place_29 : decode kb_L_place 29 = .ok (.iconst 0, 1) := by decide +kernel
theorem kd_L_place_30 : decode kb_L_place 30 = .ok (.ireturn, 1) := by decide +kernel
theorem kd_L_about_0 : decode kb_L_about 0 = .ok (.aload_n 3, 1) := by decide +kernel
theorem kd_L_about_1 : decode kb_L_about 1 = .ok (.iconst 0, 1) := by decide +kernel
theorem kd_L_about_2 : decode kb_L_about 2 = .ok (.aload_n 0, 1) := by decide +kernel
theorem kd_L_about_3 : decode kb_L_about 3 = .ok (.iload_n 1, 1) := by decide +kernel
theorem kd_L_about_4 : decode kb_L_about 4 = .ok (.iload_n 2, 1) := by decide +kernel
theorem kd_L_about_5 : decode kb_L_about 5 = .ok (.invokevirtual 33, 3) := by decide +kernel
theorem kd_L_about_8 : decode kb_L_about 8 = .ok (.i2l, 1) := by decide +kernel
theorem kd_L_about_9 : decode kb_L_about 9 = .ok (.lastore, 1) := by decide +kernel
theorem kd_L_about_10 : decode kb_L_about 10 = .ok (.goto 11, 3) := by decide +kernel
theorem kd_L_about_13 : decode kb_L_about 13 = .ok (.astore 4, 2) := by decide +kernel
theorem kd_L_about_15 : decode kb_L_about 15 = .ok (.iconst 1, 1) := by decide +kernel
theorem kd_L_about_16 : decode kb_L_about 16 = .ok (.ireturn, 1) := by decide +kernel
theorem kd_L_about_17 : decode kb_L_about 17 = .ok (.astore 4, 2) := by decide +kernel
theorem kd_L_about_19 : decode kb_L_about 19 = .ok (.iconst 2, 1) := by decide +kernel
theorem kd_L_about_20 : decode kb_L_about 20 = .ok (.ireturn, 1) := by decide +kernel
theorem kd_L_about_21 : decode kb_L_about 21 = .ok (.iconst 0, 1) := by decide +kernel
theorem kd_L_about_22 : decode kb_L_about 22 = .ok (.ireturn, 1) := by decide +kernel
theorem kd_L_curve_0 : decode kb_L_curve 0 = .ok (.aload_n 3, 1) := by decide +kernel
theorem kd_L_curve_1 : decode kb_L_curve 1 = .ok (.iconst 0, 1) := by decide +kernel
theorem kd_L_curve_2 : decode kb_L_curve 2 = .ok (.aload_n 0, 1) := by decide +kernel
theorem kd_L_curve_3 : decode kb_L_curve 3 = .ok (.iload_n 1, 1) := by decide +kernel
theorem kd_L_curve_4 : decode kb_L_curve 4 = .ok (.iload_n 2, 1) := by decide +kernel
theorem kd_L_curve_5 : decode kb_L_curve 5 = .ok (.invokevirtual 37, 3) := by decide +kernel
theorem kd_L_curve_8 : decode kb_L_curve 8 = .ok (.i2l, 1) := by decide +kernel
theorem kd_L_curve_9 : decode kb_L_curve 9 = .ok (.lastore, 1) := by decide +kernel
theorem kd_L_curve_10 : decode kb_L_curve 10 = .ok (.goto 7, 3) := by decide +kernel
theorem kd_L_curve_13 : decode kb_L_curve 13 = .ok (.astore 4, 2) := by decide +kernel
theorem kd_L_curve_15 : decode kb_L_curve 15 = .ok (.iconst 1, 1) := by decide +kernel
theorem kd_L_curve_16 : decode kb_L_curve 16 = .ok (.ireturn, 1) := by decide +kernel
theorem kd_L_curve_17 : decode kb_L_curve 17 = .ok (.iconst 0, 1) := by decide +kernel
theorem kd_L_curve_18 : decode kb_L_curve 18 = .ok (.ireturn, 1) := by decide +kernel
theorem kd_L_best_0 : decode kb_L_best 0 = .ok (.aload_n 3, 1) := by decide +kernel
theorem kd_L_best_1 : decode kb_L_best 1 = .ok (.iconst 0, 1) := by decide +kernel
theorem kd_L_best_2 : decode kb_L_best 2 = .ok (.aload_n 0, 1) := by decide +kernel
theorem kd_L_best_3 : decode kb_L_best 3 = .ok (.iload_n 1, 1) := by decide +kernel
theorem kd_L_best_4 : decode kb_L_best 4 = .ok (.iload_n 2, 1) := by decide +kernel
theorem kd_L_best_5 : decode kb_L_best 5 = .ok (.invokevirtual 40, 3) := by decide +kernel
theorem kd_L_best_8 : decode kb_L_best 8 = .ok (.i2l, 1) := by decide +kernel
theorem kd_L_best_9 : decode kb_L_best 9 = .ok (.lastore, 1) := by decide +kernel
theorem kd_L_best_10 : decode kb_L_best 10 = .ok (.goto 7, 3) := by decide +kernel
theorem kd_L_best_13 : decode kb_L_best 13 = .ok (.astore 4, 2) := by decide +kernel
theorem kd_L_best_15 : decode kb_L_best 15 = .ok (.iconst 1, 1) := by decide +kernel
theorem kd_L_best_16 : decode kb_L_best 16 = .ok (.ireturn, 1) := by decide +kernel
theorem kd_L_best_17 : decode kb_L_best 17 = .ok (.iconst 0, 1) := by decide +kernel
theorem kd_L_best_18 : decode kb_L_best 18 = .ok (.ireturn, 1) := by decide +kernel
theorem kd_M_init_0 : decode kb_M_init 0 = .ok (.aload_n 0, 1) := by decide +kernel
theorem kd_M_init_1 : decode kb_M_init 1 = .ok (.invokespecial 1, 3) := by decide +kernel
theorem kd_M_init_4 : decode kb_M_init 4 = .ok (.aload_n 0, 1) := by decide +kernel
theorem kd_M_init_5 : decode kb_M_init 5 = .ok (.sipush 400, 3) := by decide +kernel
theorem kd_M_init_8 : decode kb_M_init 8 = .ok (.newarray .int, 2) := by decide +kernel
theorem kd_M_init_10 : decode kb_M_init 10 = .ok (.putfield 7, 3) := by decide +kernel
theorem kd_M_init_13 : decode kb_M_init 13 = .ok (.aload_n 0, 1) := by decide +kernel
theorem kd_M_init_14 : decode kb_M_init 14 = .ok (.iconst 4, 1) := by decide +kernel
theorem kd_M_init_15 : decode kb_M_init 15 = .ok (.newarray .boolean, 2) := by decide +kernel
theorem kd_M_init_17 : decode kb_M_init 17 = .ok (.putfield 13, 3) := by decide +kernel
theorem kd_M_init_20 : decode kb_M_init 20 = .ok (.aload_n 0, 1) := by decide +kernel
theorem kd_M_init_21 : decode kb_M_init 21 = .ok (.iconst 4, 1) := by decide +kernel
theorem kd_M_init_22 : decode kb_M_init 22 = .ok (.newarray .int, 2) := by decide +kernel
theorem kd_M_init_24 : decode kb_M_init 24 = .ok (.putfield 17, 3) := by decide +kernel
theorem kd_M_init_27 : decode kb_M_init 27 = .ok (.aload_n 0, 1) := by decide +kernel
theorem kd_M_init_28 : decode kb_M_init 28 = .ok (.iconst 4, 1) := by decide +kernel
theorem kd_M_init_29 : decode kb_M_init 29 = .ok (.newarray .int, 2) := by decide +kernel
theorem kd_M_init_31 : decode kb_M_init 31 = .ok (.putfield 20, 3) := by decide +kernel
theorem kd_M_init_34 : decode kb_M_init 34 = .ok (.aload_n 0, 1) := by decide +kernel
theorem kd_M_init_35 : decode kb_M_init 35 = .ok (.iconst 4, 1) := by decide +kernel
theorem kd_M_init_36 : decode kb_M_init 36 = .ok (.newarray .int, 2) := by decide +kernel
theorem kd_M_init_38 : decode kb_M_init 38 = .ok (.putfield 23, 3) := by decide +kernel
theorem kd_M_init_41 : decode kb_M_init 41 = .ok (.aload_n 0, 1) := by decide +kernel
theorem kd_M_init_42 : decode kb_M_init 42 = .ok (.iconst 4, 1) := by decide +kernel
theorem kd_M_init_43 : decode kb_M_init 43 = .ok (.newarray .int, 2) := by decide +kernel
theorem kd_M_init_45 : decode kb_M_init 45 = .ok (.putfield 26, 3) := by decide +kernel
theorem kd_M_init_48 : decode kb_M_init 48 = .ok (.aload_n 0, 1) := by decide +kernel
theorem kd_M_init_49 : decode kb_M_init 49 = .ok (.iconst 4, 1) := by decide +kernel
theorem kd_M_init_50 : decode kb_M_init 50 = .ok (.newarray .int, 2) := by decide +kernel
theorem kd_M_init_52 : decode kb_M_init 52 = .ok (.putfield 29, 3) := by decide +kernel
theorem kd_M_init_55 : decode kb_M_init 55 = .ok (.aload_n 0, 1) := by decide +kernel
theorem kd_M_init_56 : decode kb_M_init 56 = .ok (.iconst 4, 1) := by decide +kernel
theorem kd_M_init_57 : decode kb_M_init 57 = .ok (.newarray .int, 2) := by decide +kernel
theorem kd_M_init_59 : decode kb_M_init 59 = .ok (.putfield 32, 3) := by decide +kernel
theorem kd_M_init_62 : decode kb_M_init 62 = .ok (.aload_n 0, 1) := by decide +kernel
theorem kd_M_init_63 : decode kb_M_init 63 = .ok (.iconst 4, 1) := by decide +kernel
theorem kd_M_init_64 : decode kb_M_init 64 = .ok (.newarray .int, 2) := by decide +kernel
theorem kd_M_init_66 : decode kb_M_init 66 = .ok (.putfield 35, 3) := by decide +kernel
theorem kd_M_init_69 : decode kb_M_init 69 = .ok (.aload_n 0, 1) := by decide +kernel
theorem kd_M_init_70 : decode kb_M_init 70 = .ok (.iconst 4, 1) := by decide +kernel
theorem kd_M_init_71 : decode kb_M_init 71 = .ok (.newarray .int, 2) := by decide +kernel
theorem kd_M_init_73 : decode kb_M_init 73 = .ok (.putfield 38, 3) := by decide +kernel
theorem kd_M_init_76 : decode kb_M_init 76 = .ok (.aload_n 0, 1) := by decide +kernel
theorem kd_M_init_77 : decode kb_M_init 77 = .ok (.sipush 512, 3) := by decide +kernel
theorem kd_M_init_80 : decode kb_M_init 80 = .ok (.newarray .int, 2) := by decide +kernel
theorem kd_M_init_82 : decode kb_M_init 82 = .ok (.putfield 41, 3) := by decide +kernel
theorem kd_M_init_85 : decode kb_M_init 85 = .ok (.aload_n 0, 1) := by decide +kernel
theorem kd_M_init_86 : decode kb_M_init 86 = .ok (.sipush 512, 3) := by decide +kernel
theorem kd_M_init_89 : decode kb_M_init 89 = .ok (.newarray .boolean, 2) := by decide +kernel
theorem kd_M_init_91 : decode kb_M_init 91 = .ok (.putfield 44, 3) := by decide +kernel
theorem kd_M_init_94 : decode kb_M_init 94 = .ok (.aload_n 0, 1) := by decide +kernel
theorem kd_M_init_95 : decode kb_M_init 95 = .ok (.sipush 512, 3) := by decide +kernel
theorem kd_M_init_98 : decode kb_M_init 98 = .ok (.newarray .int, 2) := by decide +kernel
theorem kd_M_init_100 : decode kb_M_init 100 = .ok (.putfield 47, 3) := by decide +kernel
theorem kd_M_init_103 : decode kb_M_init 103 = .ok (.aload_n 0, 1) := by decide +kernel
theorem kd_M_init_104 : decode kb_M_init 104 = .ok (.sipush 512, 3) := by decide +kernel
theorem kd_M_init_107 : decode kb_M_init 107 = .ok (.newarray .int, 2) := by decide +kernel
theorem kd_M_init_109 : decode kb_M_init 109 = .ok (.putfield 50, 3) := by decide +kernel
theorem kd_M_init_112 : decode kb_M_init 112 = .ok (.aload_n 0, 1) := by decide +kernel
theorem kd_M_init_113 : decode kb_M_init 113 = .ok (.sipush 512, 3) := by decide +kernel
theorem kd_M_init_116 : decode kb_M_init 116 = .ok (.newarray .boolean, 2) := by decide +kernel
theorem kd_M_init_118 : decode kb_M_init 118 = .ok (.putfield 53, 3) := by decide +kernel
theorem kd_M_init_121 : decode kb_M_init 121 = .ok (.aload_n 0, 1) := by decide +kernel
theorem kd_M_init_122 : decode kb_M_init 122 = .ok (.bipush 64, 2) := by decide +kernel
theorem kd_M_init_124 : decode kb_M_init 124 = .ok (.newarray .int, 2) := by decide +kernel
theorem kd_M_init_126 : decode kb_M_init 126 = .ok (.putfield 56, 3) := by decide +kernel
theorem kd_M_init_129 : decode kb_M_init 129 = .ok (.aload_n 0, 1) := by decide +kernel
theorem kd_M_init_130 : decode kb_M_init 130 = .ok (.bipush 64, 2) := by decide +kernel
theorem kd_M_init_132 : decode kb_M_init 132 = .ok (.newarray .int, 2) := by decide +kernel
theorem kd_M_init_134 : decode kb_M_init 134 = .ok (.putfield 59, 3) := by decide +kernel
theorem kd_M_init_137 : decode kb_M_init 137 = .ok (.aload_n 0, 1) := by decide +kernel
theorem kd_M_init_138 : decode kb_M_init 138 = .ok (.sipush 400, 3) := by decide +kernel
theorem kd_M_init_141 : decode kb_M_init 141 = .ok (.newarray .int, 2) := by decide +kernel
theorem kd_M_init_143 : decode kb_M_init 143 = .ok (.putfield 62, 3) := by decide +kernel
theorem kd_M_init_146 : decode kb_M_init 146 = .ok (.return_, 1) := by decide +kernel
theorem kd_M_thrown_0 : decode kb_M_thrown 0 = .ok (.aload_n 0, 1) := by decide +kernel
theorem kd_M_thrown_1 : decode kb_M_thrown 1 = .ok (.getfield 65, 3) := by decide +kernel
theorem kd_M_thrown_4 : decode kb_M_thrown 4 = .ok (.ireturn, 1) := by decide +kernel
theorem kd_M_make_0 : decode kb_M_make 0 = .ok (.iload_n 3, 1) := by decide +kernel
theorem kd_M_make_1 : decode kb_M_make 1 = .ok (.iconst 1, 1) := by decide +kernel
theorem kd_M_make_2 : decode kb_M_make 2 = .ok (.if_icmp .eq 19, 3) := by decide +kernel
theorem kd_M_make_5 : decode kb_M_make 5 = .ok (.iload_n 3, 1) := by decide +kernel
theorem kd_M_make_6 : decode kb_M_make 6 = .ok (.iconst 2, 1) := by decide +kernel
theorem kd_M_make_7 : decode kb_M_make 7 = .ok (.if_icmp .eq 14, 3) := by decide +kernel
theorem kd_M_make_10 : decode kb_M_make 10 = .ok (.iload_n 3, 1) := by decide +kernel
theorem kd_M_make_11 : decode kb_M_make 11 = .ok (.iconst 4, 1) := by decide +kernel
theorem kd_M_make_12 : decode kb_M_make 12 = .ok (.if_icmp .eq 9, 3) := by decide +kernel
theorem kd_M_make_15 : decode kb_M_make 15 = .ok (.iload_n 3, 1) := by decide +kernel
theorem kd_M_make_16 : decode kb_M_make 16 = .ok (.bipush 8, 2) := by decide +kernel
theorem kd_M_make_18 : decode kb_M_make 18 = .ok (.if_icmp .ne 7, 3) := by decide +kernel
theorem kd_M_make_21 : decode kb_M_make 21 = .ok (.iconst 1, 1) := by decide +kernel
theorem kd_M_make_22 : decode kb_M_make 22 = .ok (.goto 4, 3) := by decide +kernel
theorem kd_M_make_25 : decode kb_M_make 25 = .ok (.iconst 0, 1) := by decide +kernel
theorem kd_M_make_26 : decode kb_M_make 26 = .ok (.istore 6, 2) := by decide +kernel
theorem kd_M_make_28 : decode kb_M_make 28 = .ok (.iload_n 1, 1) := by decide +kernel
theorem kd_M_make_29 : decode kb_M_make 29 = .ok (.iconst 0, 1) := by decide +kernel
theorem kd_M_make_30 : decode kb_M_make 30 = .ok (.iconst 3, 1) := by decide +kernel
theorem kd_M_make_31 : decode kb_M_make 31 = .ok (.invokestatic 69, 3) := by decide +kernel
theorem kd_M_make_34 : decode kb_M_make 34 = .ok (.ifCond .eq 58, 3) := by decide +kernel
theorem kd_M_make_37 : decode kb_M_make 37 = .ok (.iload_n 2, 1) := by decide +kernel
theorem kd_M_make_38 : decode kb_M_make 38 = .ok (.iconst 0, 1) := by decide +kernel
theorem kd_M_make_39 : decode kb_M_make 39 = .ok (.iconst 4, 1) := by decide +kernel
theorem kd_M_make_40 : decode kb_M_make 40 = .ok (.invokestatic 69, 3) := by decide +kernel
theorem kd_M_make_43 : decode kb_M_make 43 = .ok (.ifCond .eq 49, 3) := by decide +kernel
theorem kd_M_make_46 : decode kb_M_make 46 = .ok (.iload_n 3, 1) := by decide +kernel
theorem kd_M_make_47 : decode kb_M_make 47 = .ok (.iconst 1, 1) := by decide +kernel
theorem kd_M_make_48 : decode kb_M_make 48 = .ok (.bipush 8, 2) := by decide +kernel
theorem kd_M_make_50 : decode kb_M_make 50 = .ok (.invokestatic 69, 3) := by decide +kernel
theorem kd_M_make_53 : decode kb_M_make 53 = .ok (.ifCond .eq 39, 3) := by decide +kernel
theorem kd_M_make_56 : decode kb_M_make 56 = .ok (.iload 4, 2) := by decide +kernel
theorem kd_M_make_58 : decode kb_M_make 58 = .ok (.iconst 0, 1) := by decide +kernel
theorem kd_M_make_59 : decode kb_M_make 59 = .ok (.iconst 2, 1) := by decide +kernel
theorem kd_M_make_60 : decode kb_M_make 60 = .ok (.invokestatic 69, 3) := by decide +kernel
theorem kd_M_make_63 : decode kb_M_make 63 = .ok (.ifCond .eq 29, 3) := by decide +kernel
theorem kd_M_make_66 : decode kb_M_make 66 = .ok (.iload 5, 2) := by decide +kernel
theorem kd_M_make_68 : decode kb_M_make 68 = .ok (.iconst 0, 1) := by decide +kernel
theorem kd_M_make_69 : decode kb_M_make 69 = .ok (.bipush 6, 2) := by decide +kernel
theorem kd_M_make_71 : decode kb_M_make 71 = .ok (.invokestatic 69, 3) := by decide +kernel
theorem kd_M_make_74 : decode kb_M_make 74 = .ok (.ifCond .eq 18, 3) := by decide +kernel
theorem kd_M_make_77 : decode kb_M_make 77 = .ok (.iload 4, 2) := by decide +kernel
theorem kd_M_make_79 : decode kb_M_make 79 = .ok (.iconst 2, 1) := by decide +kernel
theorem kd_M_make_80 : decode kb_M_make 80 = .ok (.if_icmp .lt 8, 3) := by decide +kernel
theorem kd_M_make_83 : decode kb_M_make 83 = .ok (.iload 6, 2) := by decide +kernel
theorem kd_M_make_85 : decode kb_M_make 85 = .ok (.ifCond .eq 7, 3) := by decide +kernel
theorem kd_M_make_88 : decode kb_M_make 88 = .ok (.iconst 1, 1) := by decide +kernel
theorem kd_M_make_89 : decode kb_M_make 89 = .ok (.goto 4, 3) := by decide +kernel
theorem kd_M_make_92 : decode kb_M_make 92 = .ok (.iconst 0, 1) := by decide +kernel
theorem kd_M_make_93 : decode kb_M_make 93 = .ok (.istore 7, 2) := by decide +kernel
theorem kd_M_make_95 : decode kb_M_make 95 = .ok (.aload_n 0, 1) := by decide +kernel
theorem kd_M_make_96 : decode kb_M_make 96 = .ok (.iload 7, 2) := by decide +kernel
theorem kd_M_make_98 : decode kb_M_make 98 = .ok (.ifCond .ne 7, 3) := by decide +kernel
theorem kd_M_make_101 : decode kb_M_make 101 = .ok (.iconst 1, 1) := by decide +kernel
theorem kd_M_make_102 : decode kb_M_make 102 = .ok (.goto 4, 3) := by decide +kernel
theorem kd_M_make_105 : decode kb_M_make 105 = .ok (.iconst 0, 1) := by decide +kernel
theorem kd_M_make_106 : decode kb_M_make 106 = .ok (.iconst 0, 1) := by decide +kernel
theorem kd_M_make_107 : decode kb_M_make 107 = .ok (.iconst 0, 1) := by decide +kernel
theorem kd_M_make_108 : decode kb_M_make 108 = .ok (.invokevirtual 73, 3) := by decide +kernel
theorem kd_M_make_111 : decode kb_M_make 111 = .ok (.ifCond .eq 4, 3) := by decide +kernel
theorem kd_M_make_114 : decode kb_M_make 114 = .ok (.return_, 1) := by decide +kernel
theorem kd_M_make_115 : decode kb_M_make 115 = .ok (.aload_n 0, 1) := by decide +kernel
theorem kd_M_make_116 : decode kb_M_make 116 = .ok (.getfield 13, 3) := by decide +kernel
theorem kd_M_make_119 : decode kb_M_make 119 = .ok (.iload_n 1, 1) := by decide +kernel
theorem kd_M_make_120 : decode kb_M_make 120 = .ok (.iconst 1, 1) := by decide +kernel
theorem kd_M_make_121 : decode kb_M_make 121 = .ok (.bastore, 1) := by decide +kernel
theorem kd_M_make_122 : decode kb_M_make 122 = .ok (.aload_n 0, 1) := by decide +kernel
theorem kd_M_make_123 : decode kb_M_make 123 = .ok (.getfield 17, 3) := by decide +kernel
theorem kd_M_make_126 : decode kb_M_make 126 = .ok (.iload_n 1, 1) := by decide +kernel
theorem kd_M_make_127 : decode kb_M_make 127 = .ok (.iload_n 2, 1) := by decide +kernel
theorem kd_M_make_128 : decode kb_M_make 128 = .ok (.iastore, 1) := by decide +kernel
theorem kd_M_make_129 : decode kb_M_make 129 = .ok (.aload_n 0, 1) := by decide +kernel
theorem kd_M_make_130 : decode kb_M_make 130 = .ok (.getfield 20, 3) := by decide +kernel
theorem kd_M_make_133 : decode kb_M_make 133 = .ok (.iload_n 1, 1) := by decide +kernel
theorem kd_M_make_134 : decode kb_M_make 134 = .ok (.iload_n 3, 1) := by decide +kernel
theorem kd_M_make_135 : decode kb_M_make 135 = .ok (.iastore, 1) := by decide +kernel
theorem kd_M_make_136 : decode kb_M_make 136 = .ok (.aload_n 0, 1) := by decide +kernel
theorem kd_M_make_137 : decode kb_M_make 137 = .ok (.getfield 23, 3) := by decide +kernel
theorem kd_M_make_140 : decode kb_M_make 140 = .ok (.iload_n 1, 1) := by decide +kernel
theorem kd_M_make_141 : decode kb_M_make 141 = .ok (.iload 4, 2) := by decide +kernel
theorem kd_M_make_143 : decode kb_M_make 143 = .ok (.iastore, 1) := by decide +kernel
theorem kd_M_make_144 : decode kb_M_make 144 = .ok (.aload_n 0, 1) := by decide +kernel
theorem kd_M_make_145 : decode kb_M_make 145 = .ok (.getfield 26, 3) := by decide +kernel
theorem kd_M_make_148 : decode kb_M_make 148 = .ok (.iload_n 1, 1) := by decide +kernel
theorem kd_M_make_149 : decode kb_M_make 149 = .ok (.iload 5, 2) := by decide +kernel
theorem kd_M_make_151 : decode kb_M_make 151 = .ok (.iastore, 1) := by decide +kernel
theorem kd_M_make_152 : decode kb_M_make 152 = .ok (.aload_n 0, 1) := by decide +kernel
theorem kd_M_make_153 : decode kb_M_make 153 = .ok (.getfield 29, 3) := by decide +kernel
theorem kd_M_make_156 : decode kb_M_make 156 = .ok (.iload_n 1, 1) := by decide +kernel
theorem kd_M_make_157 : decode kb_M_make 157 = .ok (.iconst 0, 1) := by decide +kernel
theorem kd_M_make_158 : decode kb_M_make 158 = .ok (.iastore, 1) := by decide +kernel
theorem kd_M_make_159 : decode kb_M_make 159 = .ok (.aload_n 0, 1) := by decide +kernel
theorem kd_M_make_160 : decode kb_M_make 160 = .ok (.getfield 32, 3) := by decide +kernel
theorem kd_M_make_163 : decode kb_M_make 163 = .ok (.iload_n 1, 1) := by decide +kernel
theorem kd_M_make_164 : decode kb_M_make 164 = .ok (.iconst 0, 1) := by decide +kernel
theorem kd_M_make_165 : decode kb_M_make 165 = .ok (.iastore, 1) := by decide +kernel
theorem kd_M_make_166 : decode kb_M_make 166 = .ok (.aload_n 0, 1) := by decide +kernel
theorem kd_M_make_167 : decode kb_M_make 167 = .ok (.getfield 35, 3) := by decide +kernel
theorem kd_M_make_170 : decode kb_M_make 170 = .ok (.iload_n 1, 1) := by decide +kernel
theorem kd_M_make_171 : decode kb_M_make 171 = .ok (.iconst 0, 1) := by decide +kernel
theorem kd_M_make_172 : decode kb_M_make 172 = .ok (.iastore, 1) := by decide +kernel
theorem kd_M_make_173 : decode kb_M_make 173 = .ok (.aload_n 0, 1) := by decide +kernel
theorem kd_M_make_174 : decode kb_M_make 174 = .ok (.getfield 38, 3) := by decide +kernel
theorem kd_M_make_177 : decode kb_M_make 177 = .ok (.iload_n 1, 1) := by decide +kernel
theorem kd_M_make_178 : decode kb_M_make 178 = .ok (.iconst 0, 1) := by decide +kernel
theorem kd_M_make_179 : decode kb_M_make 179 = .ok (.iastore, 1) := by decide +kernel
theorem kd_M_make_180 : decode kb_M_make 180 = .ok (.aload_n 0, 1) := by decide +kernel
theorem kd_M_make_181 : decode kb_M_make 181 = .ok (.iload_n 1, 1) := by decide +kernel
theorem kd_M_make_182 : decode kb_M_make 182 = .ok (.invokevirtual 77, 3) := by decide +kernel
theorem kd_M_make_185 : decode kb_M_make 185 = .ok (.return_, 1) := by decide +kernel
theorem kd_M_in_0 : decode kb_M_in 0 = .ok (.iload_n 0, 1) := by decide +kernel
theorem kd_M_in_1 : decode kb_M_in 1 = .ok (.iload_n 1, 1) := by decide +kernel
theorem kd_M_in_2 : decode kb_M_in 2 = .ok (.if_icmp .lt 12, 3) := by decide +kernel
theorem kd_M_in_5 : decode kb_M_in 5 = .ok (.iload_n 0, 1) := by decide +kernel
theorem kd_M_in_6 : decode kb_M_in 6 = .ok (.iload_n 2, 1) := by decide +kernel
theorem kd_M_in_7 : decode kb_M_in 7 = .ok (.if_icmp .gt 7, 3) := by decide +kernel
theorem kd_M_in_10 : decode kb_M_in 10 = .ok (.iconst 1, 1) := by decide +kernel
theorem kd_M_in_11 : decode kb_M_in 11 = .ok (.goto 4, 3) := by decide +kernel
theorem kd_M_in_14 : decode kb_M_in 14 = .ok (.iconst 0, 1) := by decide +kernel
theorem kd_M_in_15 : decode kb_M_in 15 = .ok (.ireturn, 1) := by decide +kernel
theorem kd_M_refuse_0 : decode kb_M_refuse 0 = .ok (.aload_n 0, 1) := by decide +kernel
theorem kd_M_refuse_1 : decode kb_M_refuse 1 = .ok (.iload_n 1, 1) := by decide +kernel
theorem kd_M_refuse_2 : decode kb_M_refuse 2 = .ok (.ifCond .eq 7, 3) := by decide +kernel
theorem kd_M_refuse_5 : decode kb_M_refuse 5 = .ok (.iconst 1, 1) := by decide +kernel
theorem kd_M_refuse_6 : decode kb_M_refuse 6 = .ok (.goto 20, 3) := by decide +kernel
theorem kd_M_refuse_9 : decode kb_M_refuse 9 = .ok (.iload_n 2, 1) := by decide +kernel
theorem kd_M_refuse_10 : decode kb_M_refuse 10 = .ok (.ifCond .eq 7, 3) := by decide +kernel
theorem kd_M_refuse_13 : decode kb_M_refuse 13 = .ok (.iconst 2, 1) := by decide +kernel
theorem kd_M_refuse_14 : decode kb_M_refuse 14 = .ok (.goto 12, 3) := by decide +kernel
theorem kd_M_refuse_17 : decode kb_M_refuse 17 = .ok (.iload_n 3, 1) := by decide +kernel
theorem kd_M_refuse_18 : decode kb_M_refuse 18 = .ok (.ifCond .eq 7, 3) := by decide +kernel
theorem kd_M_refuse_21 : decode kb_M_refuse 21 = .ok (.iconst 3, 1) := by decide +kernel
theorem kd_M_refuse_22 : decode kb_M_refuse 22 = .ok (.goto 4, 3) := by decide +kernel
theorem kd_M_refuse_25 : decode kb_M_refuse 25 = .ok (.iconst 0, 1) := by decide +kernel
theorem kd_M_refuse_26 : decode kb_M_refuse 26 = .ok (.putfield 65, 3) := by decide +kernel
theorem kd_M_refuse_29 : decode kb_M_refuse 29 = .ok (.aload_n 0, 1) := by decide +kernel
theorem kd_M_refuse_30 : decode kb_M_refuse 30 = .ok (.getfield 65, 3) := by decide +kernel
theorem kd_M_refuse_33 : decode kb_M_refuse 33 = .ok (.ifCond .le 7, 3) := by decide +kernel
theorem kd_M_refuse_36 : decode kb_M_refuse 36 = .ok (.iconst 1, 1) := by decide +kernel
theorem kd_M_refuse_37 : decode kb_M_refuse 37 = .ok (.goto 4, 3) := by decide +kernel
theorem kd_M_refuse_40 : decode kb_M_refuse 40 = .ok (.iconst 0, 1) := by decide +kernel
theorem kd_M_refuse_41 : decode kb_M_refuse 41 = .ok (.ireturn, 1) := by decide +kernel
theorem kd_M_empty_0 : decode kb_M_empty 0 = .ok (.iconst 0, 1) := by decide +kernel
theorem kd_M_empty_1 : decode kb_M_empty 1 = .ok (.istore_n 2, 1) := by decide +kernel
theorem kd_M_empty_2 : decode kb_M_empty 2 = .ok (.iload_n 2, 1) := by decide +kernel
theorem kd_M_empty_3 : decode kb_M_empty 3 = .ok (.sipush 128, 3) := by decide +kernel
theorem kd_M_empty_6 : decode kb_M_empty 6 = .ok (.if_icmp .ge 48, 3) := by decide +kernel
theorem kd_M_empty_9 : decode kb_M_empty 9 = .ok (.aload_n 0, 1) := by decide +kernel
theorem kd_M_empty_10 : decode kb_M_empty 10 = .ok (.getfield 41, 3) := by decide +kernel
theorem kd_M_empty_13 : decode kb_M_empty 13 = .ok (.sipush 128, 3) := by decide +kernel
theorem kd_M_empty_16 : decode kb_M_empty 16 = .ok (.iload_n 1, 1) := by decide +kernel
theorem kd_M_empty_17 : decode kb_M_empty 17 = .ok (.imul, 1) := by decide +kernel
theorem kd_M_empty_18 : decode kb_M_empty 18 = .ok (.iload_n 2, 1) := by decide +kernel
theorem kd_M_empty_19 : decode kb_M_empty 19 = .ok (.iadd, 1) := by decide +kernel
theorem kd_M_empty_20 : decode kb_M_empty 20 = .ok (.iconst (-1), 1) := by decide +kernel
theorem kd_M_empty_21 : decode kb_M_empty 21 = .ok (.iastore, 1) := by decide +kernel
theorem kd_M_empty_22 : decode kb_M_empty 22 = .ok (.aload_n 0, 1) := by decide +kernel
theorem kd_M_empty_23 : decode kb_M_empty 23 = .ok (.getfield 44, 3) := by decide +kernel
theorem kd_M_empty_26 : decode kb_M_empty 26 = .ok (.sipush 128, 3) := by decide +kernel
theorem kd_M_empty_29 : decode kb_M_empty 29 = .ok (.iload_n 1, 1) := by decide +kernel
theorem kd_M_empty_30 : decode kb_M_empty 30 = .ok (.imul, 1) := by decide +kernel
theorem kd_M_empty_31 : decode kb_M_empty 31 = .ok (.iload_n 2, 1) := by decide +kernel
theorem kd_M_empty_32 : decode kb_M_empty 32 = .ok (.iadd, 1) := by decide +kernel
theorem kd_M_empty_33 : decode kb_M_empty 33 = .ok (.iconst 0, 1) := by decide +kernel
theorem kd_M_empty_34 : decode kb_M_empty 34 = .ok (.bastore, 1) := by decide +kernel
theorem kd_M_empty_35 : decode kb_M_empty 35 = .ok (.aload_n 0, 1) := by decide +kernel
theorem kd_M_empty_36 : decode kb_M_empty 36 = .ok (.getfield 53, 3) := by decide +kernel
theorem kd_M_empty_39 : decode kb_M_empty 39 = .ok (.sipush 128, 3) := by decide +kernel
theorem kd_M_empty_42 : decode kb_M_empty 42 = .ok (.iload_n 1, 1) := by decide +kernel
theorem kd_M_empty_43 : decode kb_M_empty 43 = .ok (.imul, 1) := by decide +kernel
theorem kd_M_empty_44 : decode kb_M_empty 44 = .ok (.iload_n 2, 1) := by decide +kernel
theorem kd_M_empty_45 : decode kb_M_empty 45 = .ok (.iadd, 1) := by decide +kernel
theorem kd_M_empty_46 : decode kb_M_empty 46 = .ok (.iconst 0, 1) := by decide +kernel
theorem kd_M_empty_47 : decode kb_M_empty 47 = .ok (.bastore, 1) := by decide +kernel
theorem kd_M_empty_48 : decode kb_M_empty 48 = .ok (.iinc 2 1, 3) := by decide +kernel
theorem kd_M_empty_51 : decode kb_M_empty 51 = .ok (.goto (-49), 3) := by decide +kernel
theorem kd_M_empty_54 : decode kb_M_empty 54 = .ok (.return_, 1) := by decide +kernel
theorem kd_M_access_0 : decode kb_M_access 0 = .ok (.iload_n 1, 1) := by decide +kernel
theorem kd_M_access_1 : decode kb_M_access 1 = .ok (.iconst 0, 1) := by decide +kernel
theorem kd_M_access_2 : decode kb_M_access 2 = .ok (.sipush 4095, 3) := by decide +kernel
theorem kd_M_access_5 : decode kb_M_access 5 = .ok (.invokestatic 69, 3) := by decide +kernel
theorem kd_M_access_8 : decode kb_M_access 8 = .ok (.istore_n 3, 1) := by decide +kernel
theorem kd_M_access_9 : decode kb_M_access 9 = .ok (.aload_n 0, 1) := by decide +kernel
theorem kd_M_access_10 : decode kb_M_access 10 = .ok (.iload_n 3, 1) := by decide +kernel
theorem kd_M_access_11 : decode kb_M_access 11 = .ok (.ifCond .ne 7, 3) := by decide +kernel
theorem kd_M_access_14 : decode kb_M_access 14 = .ok (.iconst 1, 1) := by decide +kernel
theorem kd_M_access_15 : decode kb_M_access 15 = .ok (.goto 4, 3) := by decide +kernel
theorem kd_M_access_18 : decode kb_M_access 18 = .ok (.iconst 0, 1) := by decide +kernel
theorem kd_M_access_19 : decode kb_M_access 19 = .ok (.aload_n 0, 1) := by decide +kernel
theorem kd_M_access_20 : decode kb_M_access 20 = .ok (.getfield 92, 3) := by decide +kernel
theorem kd_M_access_23 : decode kb_M_access 23 = .ok (.sipush 400, 3) := by decide +kernel
theorem kd_M_access_26 : decode kb_M_access 26 = .ok (.if_icmp .ne 7, 3) := by decide +kernel
theorem kd_M_access_29 : decode kb_M_access 29 = .ok (.iconst 1, 1) := by decide +kernel
theorem kd_M_access_30 : decode kb_M_access 30 = .ok (.goto 4, 3) := by decide +kernel
theorem kd_M_access_33 : decode kb_M_access 33 = .ok (.iconst 0, 1) := by decide +kernel
theorem kd_M_access_34 : decode kb_M_access 34 = .ok (.iconst 0, 1) := by decide +kernel
theorem kd_M_access_35 : decode kb_M_access 35 = .ok (.invokevirtual 73, 3) := by decide +kernel
theorem kd_M_access_38 : decode kb_M_access 38 = .ok (.ifCond .eq 5, 3) := by decide +kernel
theorem kd_M_access_41 : decode kb_M_access 41 = .ok (.iconst 0, 1) := by decide +kernel
theorem kd_M_access_42 : decode kb_M_access 42 = .ok (.ireturn, 1) := by decide +kernel
theorem kd_M_access_43 : decode kb_M_access 43 = .ok (.iconst 0, 1) := by decide +kernel
theorem kd_M_access_44 : decode kb_M_access 44 = .ok (.istore 4, 2) := by decide +kernel
theorem kd_M_access_46 : decode kb_M_access 46 = .ok (.iconst 0, 1) := by decide +kernel
theorem kd_M_access_47 : decode kb_M_access 47 = .ok (.istore 5, 2) := by decide +kernel
theorem kd_M_access_49 : decode kb_M_access 49 = .ok (.iload 5, 2) := by decide +kernel
theorem kd_M_access_51 : decode kb_M_access 51 = .ok (.iconst 4, 1) := by decide +kernel
theorem kd_M_access_52 : decode kb_M_access 52 = .ok (.if_icmp .ge 56, 3) := by decide +kernel
theorem kd_M_access_55 : decode kb_M_access 55 = .ok (.aload_n 0, 1) := by decide +kernel
theorem kd_M_access_56 : decode kb_M_access 56 = .ok (.getfield 13, 3) := by decide +kernel
theorem kd_M_access_59 : decode kb_M_access 59 = .ok (.iload 5, 2) := by decide +kernel
theorem kd_M_access_61 : decode kb_M_access 61 = .ok (.baload, 1) := by decide +kernel
theorem kd_M_access_62 : decode kb_M_access 62 = .ok (.ifCond .eq 18, 3) := by decide +kernel
theorem kd_M_access_65 : decode kb_M_access 65 = .ok (.aload_n 0, 1) := by decide +kernel
theorem kd_M_access_66 : decode kb_M_access 66 = .ok (.iload 5, 2) := by decide +kernel
theorem kd_M_access_68 : decode kb_M_access 68 = .ok (.iload_n 1, 1) := by decide +kernel
theorem kd_M_access_69 : decode kb_M_access 69 = .ok (.iload_n 2, 1) := by decide +kernel
theorem kd_M_access_70 : decode kb_M_access 70 = .ok (.invokevirtual 99, 3) := by decide +kernel
theorem kd_M_access_73 : decode kb_M_access 73 = .ok (.ifCond .eq 7, 3) := by decide +kernel
theorem kd_M_access_76 : decode kb_M_access 76 = .ok (.iconst 1, 1) := by decide +kernel
theorem kd_M_access_77 : decode kb_M_access 77 = .ok (.goto 4, 3) := by decide +kernel
theorem kd_M_access_80 : decode kb_M_access 80 = .ok (.iconst 0, 1) := by decide +kernel
theorem kd_M_access_81 : decode kb_M_access 81 = .ok (.istore 6, 2) := by decide +kernel
theorem kd_M_access_83 : decode kb_M_access 83 = .ok (.iload 6, 2) := by decide +kernel
theorem kd_M_access_85 : decode kb_M_access 85 = .ok (.ifCond .eq 13, 3) := by decide +kernel
theorem kd_M_access_88 : decode kb_M_access 88 = .ok (.iload 4, 2) := by decide +kernel
theorem kd_M_access_90 : decode kb_M_access 90 = .ok (.iconst 1, 1) := by decide +kernel
theorem kd_M_access_91 : decode kb_M_access 91 = .ok (.iload 5, 2) := by decide +kernel
theorem kd_M_access_93 : decode kb_M_access 93 = .ok (.ishl, 1) := by decide +kernel
theorem kd_M_access_94 : decode kb_M_access 94 = .ok (.ior, 1) := by decide +kernel
theorem kd_M_access_95 : decode kb_M_access 95 = .ok (.goto 5, 3) := by decide +kernel
theorem kd_M_access_98 : decode kb_M_access 98 = .ok (.iload 4, 2) := by decide +kernel
theorem kd_M_access_100 : decode kb_M_access 100 = .ok (.istore 4, 2) := by decide +kernel
theorem kd_M_access_102 : decode kb_M_access 102 = .ok (.iinc 5 1, 3) := by decide +kernel
theorem kd_M_access_105 : decode kb_M_access 105 = .ok (.goto (-56), 3) := by decide +kernel
theorem kd_M_access_108 : decode kb_M_access 108 = .ok (.aload_n 0, 1) := by decide +kernel
theorem kd_M_access_109 : decode kb_M_access 109 = .ok (.getfield 7, 3) := by decide +kernel
theorem kd_M_access_112 : decode kb_M_access 112 = .ok (.aload_n 0, 1) := by decide +kernel
theorem kd_M_access_113 : decode kb_M_access 113 = .ok (.getfield 92, 3) := by decide +kernel
theorem kd_M_access_116 : decode kb_M_access 116 = .ok (.iload_n 1, 1) := by decide +kernel
theorem kd_M_access_117 : decode kb_M_access 117 = .ok (.iastore, 1) := by decide +kernel
theorem kd_M_access_118 : decode kb_M_access 118 = .ok (.aload_n 0, 1) := by decide +kernel
theorem kd_M_access_119 : decode kb_M_access 119 = .ok (.dup, 1) := by decide +kernel
theorem kd_M_access_120 : decode kb_M_access 120 = .ok (.getfield 92, 3) := by decide +kernel
theorem kd_M_access_123 : decode kb_M_access 123 = .ok (.iconst 1, 1) := by decide +kernel
theorem kd_M_access_124 : decode kb_M_access 124 = .ok (.iadd, 1) := by decide +kernel
theorem kd_M_access_125 : decode kb_M_access 125 = .ok (.putfield 92, 3) := by decide +kernel
theorem kd_M_access_128 : decode kb_M_access 128 = .ok (.iload 4, 2) := by decide +kernel
theorem kd_M_access_130 : decode kb_M_access 130 = .ok (.ireturn, 1) := by decide +kernel
theorem kd_M_see_0 : decode kb_M_see 0 = .ok (.iload_n 2, 1) := by decide +kernel
theorem kd_M_see_1 : decode kb_M_see 1 = .ok (.aload_n 0, 1) := by decide +kernel
theorem kd_M_see_2 : decode kb_M_see 2 = .ok (.getfield 26, 3) := by decide +kernel
theorem kd_M_see_5 : decode kb_M_see 5 = .ok (.iload_n 1, 1) := by decide +kernel
theorem kd_M_see_6 : decode kb_M_see 6 = .ok (.iaload, 1) := by decide +kernel
theorem kd_M_see_7 : decode kb_M_see 7 = .ok (.ishr, 1) := by decide +kernel
theorem kd_M_see_8 : decode kb_M_see 8 = .ok (.istore 4, 2) := by decide +kernel
theorem kd_M_see_10 : decode kb_M_see 10 = .ok (.sipush 128, 3) := by decide +kernel
theorem kd_M_see_13 : decode kb_M_see 13 = .ok (.iload_n 1, 1) := by decide +kernel
theorem kd_M_see_14 : decode kb_M_see 14 = .ok (.imul, 1) := by decide +kernel
theorem kd_M_see_15 : decode kb_M_see 15 = .ok (.bipush 8, 2) := by decide +kernel
theorem kd_M_see_17 : decode kb_M_see 17 = .ok (.iload 4, 2) := by decide +kernel
theorem kd_M_see_19 : decode kb_M_see 19 = .ok (.iconst 1, 1) := by decide +kernel
theorem kd_M_see_20 : decode kb_M_see 20 = .ok (.aload_n 0, 1) := by decide +kernel
theorem kd_M_see_21 : decode kb_M_see 21 = .ok (.getfield 17, 3) := by decide +kernel
theorem kd_M_see_24 : decode kb_M_see 24 = .ok (.iload_n 1, 1) := by decide +kernel
theorem kd_M_see_25 : decode kb_M_see 25 = .ok (.iaload, 1) := by decide +kernel
theorem kd_M_see_26 : decode kb_M_see 26 = .ok (.ishl, 1) := by decide +kernel
theorem kd_M_see_27 : decode kb_M_see 27 = .ok (.iconst 1, 1) := by decide +kernel
theorem kd_M_see_28 : decode kb_M_see 28 = .ok (.isub, 1) := by decide +kernel
theorem kd_M_see_29 : decode kb_M_see 29 = .ok (.iand, 1) := by decide +kernel
theorem kd_M_see_30 : decode kb_M_see 30 = .ok (.imul, 1) := by decide +kernel
theorem kd_M_see_31 : decode kb_M_see 31 = .ok (.iadd, 1) := by decide +kernel
theorem kd_M_see_32 : decode kb_M_see 32 = .ok (.istore 5, 2) := by decide +kernel
theorem kd_M_see_34 : decode kb_M_see 34 = .ok (.aload_n 0, 1) := by decide +kernel
theorem kd_M_see_35 : decode kb_M_see 35 = .ok (.iload_n 1, 1) := by decide +kernel
theorem kd_M_see_36 : decode kb_M_see 36 = .ok (.iload 5, 2) := by decide +kernel
theorem kd_M_see_38 : decode kb_M_see 38 = .ok (.iload 4, 2) := by decide +kernel
theorem kd_M_see_40 : decode kb_M_see 40 = .ok (.invokevirtual 85, 3) := by decide +kernel
theorem kd_M_see_43 : decode kb_M_see 43 = .ok (.istore 6, 2) := by decide +kernel
theorem kd_M_see_45 : decode kb_M_see 45 = .ok (.iload 6, 2) := by decide +kernel
theorem kd_M_see_47 : decode kb_M_see 47 = .ok (.ifCond .lt 7, 3) := by decide +kernel
theorem kd_M_see_50 : decode kb_M_see 50 = .ok (.iconst 1, 1) := by decide +kernel
theorem kd_M_see_51 : decode kb_M_see 51 = .ok (.goto 4, 3) := by decide +kernel
theorem kd_M_see_54 : decode kb_M_see 54 = .ok (.iconst 0, 1) := by decide +kernel
theorem kd_M_see_55 : decode kb_M_see 55 = .ok (.istore 7, 2) := by decide +kernel
theorem kd_M_see_57 : decode kb_M_see 57 = .ok (.iload 7, 2) := by decide +kernel
theorem kd_M_see_59 : decode kb_M_see 59 = .ok (.ifCond .eq 16, 3) := by decide +kernel
theorem kd_M_see_62 : decode kb_M_see 62 = .ok (.aload_n 0, 1) := by decide +kernel
theorem kd_M_see_63 : decode kb_M_see 63 = .ok (.getfield 29, 3) := by decide +kernel
theorem kd_M_see_66 : decode kb_M_see 66 = .ok (.iload_n 1, 1) := by decide +kernel
theorem kd_M_see_67 : decode kb_M_see 67 = .ok (.dup2, 1) := by decide +kernel
theorem kd_M_see_68 : decode kb_M_see 68 = .ok (.iaload, 1) := by decide +kernel
theorem kd_M_see_69 : decode kb_M_see 69 = .ok (.iconst 1, 1) := by decide +kernel
theorem kd_M_see_70 : decode kb_M_see 70 = .ok (.iadd, 1) := by decide +kernel
theorem kd_M_see_71 : decode kb_M_see 71 = .ok (.iastore, 1) := by decide +kernel
theorem kd_M_see_72 : decode kb_M_see 72 = .ok (.goto 120, 3) := by decide +kernel
theorem kd_M_see_75 : decode kb_M_see 75 = .ok (.aload_n 0, 1) := by decide +kernel
theorem kd_M_see_76 : decode kb_M_see 76 = .ok (.getfield 32, 3) := by decide +kernel
theorem kd_M_see_79 : decode kb_M_see 79 = .ok (.iload_n 1, 1) := by decide +kernel
theorem kd_M_see_80 : decode kb_M_see 80 = .ok (.dup2, 1) := by decide +kernel
theorem kd_M_see_81 : decode kb_M_see 81 = .ok (.iaload, 1) := by decide +kernel
theorem kd_M_see_82 : decode kb_M_see 82 = .ok (.iconst 1, 1) := by decide +kernel
theorem kd_M_see_83 : decode kb_M_see 83 = .ok (.iadd, 1) := by decide +kernel
theorem kd_M_see_84 : decode kb_M_see 84 = .ok (.iastore, 1) := by decide +kernel
theorem kd_M_see_85 : decode kb_M_see 85 = .ok (.aload_n 0, 1) := by decide +kernel
theorem kd_M_see_86 : decode kb_M_see 86 = .ok (.iload_n 1, 1) := by decide +kernel
theorem kd_M_see_87 : decode kb_M_see 87 = .ok (.iload 5, 2) := by decide +kernel
theorem kd_M_see_89 : decode kb_M_see 89 = .ok (.iconst (-1), 1) := by decide +kernel
theorem kd_M_see_90 : decode kb_M_see 90 = .ok (.invokevirtual 85, 3) := by decide +kernel
theorem kd_M_see_93 : decode kb_M_see 93 = .ok (.istore 6, 2) := by decide +kernel
theorem kd_M_see_95 : decode kb_M_see 95 = .ok (.iload 6, 2) := by decide +kernel
theorem kd_M_see_97 : decode kb_M_see 97 = .ok (.ifCond .ge 58, 3) := by decide +kernel
theorem kd_M_see_100 : decode kb_M_see 100 = .ok (.aload_n 0, 1) := by decide +kernel
theorem kd_M_see_101 : decode kb_M_see 101 = .ok (.iload_n 1, 1) := by decide +kernel
theorem kd_M_see_102 : decode kb_M_see 102 = .ok (.iload 5, 2) := by decide +kernel
theorem kd_M_see_104 : decode kb_M_see 104 = .ok (.invokevirtual 89, 3) := by decide +kernel
theorem kd_M_see_107 : decode kb_M_see 107 = .ok (.istore 6, 2) := by decide +kernel
theorem kd_M_see_109 : decode kb_M_see 109 = .ok (.aload_n 0, 1) := by decide +kernel
theorem kd_M_see_110 : decode kb_M_see 110 = .ok (.getfield 35, 3) := by decide +kernel
theorem kd_M_see_113 : decode kb_M_see 113 = .ok (.iload_n 1, 1) := by decide +kernel
theorem kd_M_see_114 : decode kb_M_see 114 = .ok (.dup2, 1) := by decide +kernel
theorem kd_M_see_115 : decode kb_M_see 115 = .ok (.iaload, 1) := by decide +kernel
theorem kd_M_see_116 : decode kb_M_see 116 = .ok (.iconst 1, 1) := by decide +kernel
theorem kd_M_see_117 : decode kb_M_see 117 = .ok (.iadd, 1) := by decide +kernel
theorem kd_M_see_118 : decode kb_M_see 118 = .ok (.iastore, 1) := by decide +kernel
theorem kd_M_see_119 : decode kb_M_see 119 = .ok (.aload_n 0, 1) := by decide +kernel
theorem kd_M_see_120 : decode kb_M_see 120 = .ok (.getfield 38, 3) := by decide +kernel
theorem kd_M_see_123 : decode kb_M_see 123 = .ok (.iload_n 1, 1) := by decide +kernel
theorem kd_M_see_124 : decode kb_M_see 124 = .ok (.aload_n 0, 1) := by decide +kernel
theorem kd_M_see_125 : decode kb_M_see 125 = .ok (.getfield 44, 3) := by decide +kernel
theorem kd_M_see_128 : decode kb_M_see 128 = .ok (.iload 5, 2) := by decide +kernel
theorem kd_M_see_130 : decode kb_M_see 130 = .ok (.iload 6, 2) := by decide +kernel
theorem kd_M_see_132 : decode kb_M_see 132 = .ok (.iadd, 1) := by decide +kernel
theorem kd_M_see_133 : decode kb_M_see 133 = .ok (.baload, 1) := by decide +kernel
theorem kd_M_see_134 : decode kb_M_see 134 = .ok (.ifCond .eq 14, 3) := by decide +kernel
theorem kd_M_see_137 : decode kb_M_see 137 = .ok (.aload_n 0, 1) := by decide +kernel
theorem kd_M_see_138 : decode kb_M_see 138 = .ok (.getfield 38, 3) := by decide +kernel
theorem kd_M_see_141 : decode kb_M_see 141 = .ok (.iload_n 1, 1) := by decide +kernel
theorem kd_M_see_142 : decode kb_M_see 142 = .ok (.iaload, 1) := by decide +kernel
theorem kd_M_see_143 : decode kb_M_see 143 = .ok (.iconst 1, 1) := by decide +kernel
theorem kd_M_see_144 : decode kb_M_see 144 = .ok (.iadd, 1) := by decide +kernel
theorem kd_M_see_145 : decode kb_M_see 145 = .ok (.goto 9, 3) := by decide +kernel
theorem kd_M_see_148 : decode kb_M_see 148 = .ok (.aload_n 0, 1) := by decide +kernel
theorem kd_M_see_149 : decode kb_M_see 149 = .ok (.getfield 38, 3) := by decide +kernel
theorem kd_M_see_152 : decode kb_M_see 152 = .ok (.iload_n 1, 1) := by decide +kernel
theorem kd_M_see_153 : decode kb_M_see 153 = .ok (.iaload, 1) := by decide +kernel
theorem kd_M_see_154 : decode kb_M_see 154 = .ok (.iastore, 1) := by decide +kernel
theorem kd_M_see_155 : decode kb_M_see 155 = .ok (.aload_n 0, 1) := by decide +kernel
theorem kd_M_see_156 : decode kb_M_see 156 = .ok (.getfield 41, 3) := by decide +kernel
theorem kd_M_see_159 : decode kb_M_see 159 = .ok (.iload 5, 2) := by decide +kernel
theorem kd_M_see_161 : decode kb_M_see 161 = .ok (.iload 6, 2) := by decide +kernel
theorem kd_M_see_163 : decode kb_M_see 163 = .ok (.iadd, 1) := by decide +kernel
theorem kd_M_see_164 : decode kb_M_see 164 = .ok (.iload 4, 2) := by decide +kernel
theorem kd_M_see_166 : decode kb_M_see 166 = .ok (.iastore, 1) := by decide +kernel
theorem kd_M_see_167 : decode kb_M_see 167 = .ok (.aload_n 0, 1) := by decide +kernel
theorem kd_M_see_168 : decode kb_M_see 168 = .ok (.getfield 44, 3) := by decide +kernel
theorem kd_M_see_171 : decode kb_M_see 171 = .ok (.iload 5, 2) := by decide +kernel
theorem kd_M_see_173 : decode kb_M_see 173 = .ok (.iload 6, 2) := by decide +kernel
theorem kd_M_see_175 : decode kb_M_see 175 = .ok (.iadd, 1) := by decide +kernel
theorem kd_M_see_176 : decode kb_M_see 176 = .ok (.iconst 0, 1) := by decide +kernel
theorem kd_M_see_177 : decode kb_M_see 177 = .ok (.bastore, 1) := by decide +kernel
theorem kd_M_see_178 : decode kb_M_see 178 = .ok (.aload_n 0, 1) := by decide +kernel
theorem kd_M_see_179 : decode kb_M_see 179 = .ok (.getfield 50, 3) := by decide +kernel
theorem kd_M_see_182 : decode kb_M_see 182 = .ok (.iload 5, 2) := by decide +kernel
theorem kd_M_see_184 : decode kb_M_see 184 = .ok (.iload 6, 2) := by decide +kernel
theorem kd_M_see_186 : decode kb_M_see 186 = .ok (.iadd, 1) := by decide +kernel
theorem kd_M_see_187 : decode kb_M_see 187 = .ok (.aload_n 0, 1) := by decide +kernel
theorem kd_M_see_188 : decode kb_M_see 188 = .ok (.getfield 92, 3) := by decide +kernel
theorem kd_M_see_191 : decode kb_M_see 191 = .ok (.iastore, 1) := by decide +kernel
theorem kd_M_see_192 : decode kb_M_see 192 = .ok (.aload_n 0, 1) := by decide +kernel
theorem kd_M_see_193 : decode kb_M_see 193 = .ok (.getfield 47, 3) := by decide +kernel
theorem kd_M_see_196 : decode kb_M_see 196 = .ok (.iload 5, 2) := by decide +kernel
theorem kd_M_see_198 : decode kb_M_see 198 = .ok (.iload 6, 2) := by decide +kernel
theorem kd_M_see_200 : decode kb_M_see 200 = .ok (.iadd, 1) := by decide +kernel
theorem kd_M_see_201 : decode kb_M_see 201 = .ok (.aload_n 0, 1) := by decide +kernel
theorem kd_M_see_202 : decode kb_M_see 202 = .ok (.getfield 92, 3) := by decide +kernel
theorem kd_M_see_205 : decode kb_M_see 205 = .ok (.iastore, 1) := by decide +kernel
theorem kd_M_see_206 : decode kb_M_see 206 = .ok (.aload_n 0, 1) := by decide +kernel
theorem kd_M_see_207 : decode kb_M_see 207 = .ok (.getfield 44, 3) := by decide +kernel
theorem kd_M_see_210 : decode kb_M_see 210 = .ok (.iload 5, 2) := by decide +kernel
theorem kd_M_see_212 : decode kb_M_see 212 = .ok (.iload 6, 2) := by decide +kernel
theorem kd_M_see_214 : decode kb_M_see 214 = .ok (.iadd, 1) := by decide +kernel
theorem kd_M_see_215 : decode kb_M_see 215 = .ok (.aload_n 0, 1) := by decide +kernel
theorem kd_M_see_216 : decode kb_M_see 216 = .ok (.getfield 44, 3) := by decide +kernel
theorem kd_M_see_219 : decode kb_M_see 219 = .ok (.iload 5, 2) := by decide +kernel
theorem kd_M_see_221 : decode kb_M_see 221 = .ok (.iload 6, 2) := by decide +kernel
theorem kd_M_see_223 : decode kb_M_see 223 = .ok (.iadd, 1) := by decide +kernel
theorem kd_M_see_224 : decode kb_M_see 224 = .ok (.baload, 1) := by decide +kernel
theorem kd_M_see_225 : decode kb_M_see 225 = .ok (.ifCond .ne 7, 3) := by decide +kernel
theorem kd_M_see_228 : decode kb_M_see 228 = .ok (.iload_n 3, 1) := by decide +kernel
theorem kd_M_see_229 : decode kb_M_see 229 = .ok (.ifCond .eq 7, 3) := by decide +kernel
theorem kd_M_see_232 : decode kb_M_see 232 = .ok (.iconst 1, 1) := by decide +kernel
theorem kd_M_see_233 : decode kb_M_see 233 = .ok (.goto 4, 3) := by decide +kernel
theorem kd_M_see_236 : decode kb_M_see 236 = .ok (.iconst 0, 1) := by decide +kernel
theorem kd_M_see_237 : decode kb_M_see 237 = .ok (.bastore, 1) := by decide +kernel
theorem kd_M_see_238 : decode kb_M_see 238 = .ok (.aload_n 0, 1) := by decide +kernel
theorem kd_M_see_239 : decode kb_M_see 239 = .ok (.iload_n 1, 1) := by decide +kernel
theorem kd_M_see_240 : decode kb_M_see 240 = .ok (.iload 5, 2) := by decide +kernel
theorem kd_M_see_242 : decode kb_M_see 242 = .ok (.iload 6, 2) := by decide +kernel
theorem kd_M_see_244 : decode kb_M_see 244 = .ok (.invokevirtual 95, 3) := by decide +kernel
theorem kd_M_see_247 : decode kb_M_see 247 = .ok (.iload 7, 2) := by decide +kernel
theorem kd_M_see_249 : decode kb_M_see 249 = .ok (.ireturn, 1) := by decide +kernel
theorem kd_M_placeOf_0 : decode kb_M_placeOf 0 = .ok (.iconst (-1), 1) := by decide +kernel
theorem kd_M_placeOf_1 : decode kb_M_placeOf 1 = .ok (.istore 4, 2) := by decide +kernel
theorem kd_M_placeOf_3 : decode kb_M_placeOf 3 = .ok (.aload_n 0, 1) := by decide +kernel
theorem kd_M_placeOf_4 : decode kb_M_placeOf 4 = .ok (.getfield 20, 3) := by decide +kernel
theorem kd_M_placeOf_7 : decode kb_M_placeOf 7 = .ok (.iload_n 1, 1) := by decide +kernel
theorem kd_M_placeOf_8 : decode kb_M_placeOf 8 = .ok (.iaload, 1) := by decide +kernel
theorem kd_M_placeOf_9 : decode kb_M_placeOf 9 = .ok (.iconst 1, 1) := by decide +kernel
theorem kd_M_placeOf_10 : decode kb_M_placeOf 10 = .ok (.isub, 1) := by decide +kernel
theorem kd_M_placeOf_11 : decode kb_M_placeOf 11 = .ok (.istore 5, 2) := by decide +kernel
theorem kd_M_placeOf_13 : decode kb_M_placeOf 13 = .ok (.iload 5, 2) := by decide +kernel
theorem kd_M_placeOf_15 : decode kb_M_placeOf 15 = .ok (.ifCond .lt 31, 3) := by decide +kernel
theorem kd_M_placeOf_18 : decode kb_M_placeOf 18 = .ok (.aload_n 0, 1) := by decide +kernel
theorem kd_M_placeOf_19 : decode kb_M_placeOf 19 = .ok (.getfield 41, 3) := by decide +kernel
theorem kd_M_placeOf_22 : decode kb_M_placeOf 22 = .ok (.iload_n 2, 1) := by decide +kernel
theorem kd_M_placeOf_23 : decode kb_M_placeOf 23 = .ok (.iload 5, 2) := by decide +kernel
theorem kd_M_placeOf_25 : decode kb_M_placeOf 25 = .ok (.iadd, 1) := by decide +kernel
theorem kd_M_placeOf_26 : decode kb_M_placeOf 26 = .ok (.iaload, 1) := by decide +kernel
theorem kd_M_placeOf_27 : decode kb_M_placeOf 27 = .ok (.iload_n 3, 1) := by decide +kernel
theorem kd_M_placeOf_28 : decode kb_M_placeOf 28 = .ok (.if_icmp .ne 8, 3) := by decide +kernel
theorem kd_M_placeOf_31 : decode kb_M_placeOf 31 = .ok (.iload 5, 2) := by decide +kernel
theorem kd_M_placeOf_33 : decode kb_M_placeOf 33 = .ok (.goto 5, 3) := by decide +kernel
theorem kd_M_placeOf_36 : decode kb_M_placeOf 36 = .ok (.iload 4, 2) := by decide +kernel
theorem kd_M_placeOf_38 : decode kb_M_placeOf 38 = .ok (.istore 4, 2) := by decide +kernel
theorem kd_M_placeOf_40 : decode kb_M_placeOf 40 = .ok (.iinc 5 (-1), 3) := by decide +kernel
theorem kd_M_placeOf_43 : decode kb_M_placeOf 43 = .ok (.goto (-30), 3) := by decide +kernel
theorem kd_M_placeOf_46 : decode kb_M_placeOf 46 = .ok (.iload 4, 2) := by decide +kernel
theorem kd_M_placeOf_48 : decode kb_M_placeOf 48 = .ok (.ireturn, 1) := by decide +kernel
theorem kd_M_victimOf_0 : decode kb_M_victimOf 0 = .ok (.aload_n 0, 1) := by decide +kernel
theorem kd_M_victimOf_1 : decode kb_M_victimOf 1 = .ok (.getfield 23, 3) := by decide +kernel
theorem kd_M_victimOf_4 : decode kb_M_victimOf 4 = .ok (.iload_n 1, 1) := by decide +kernel
theorem kd_M_victimOf_5 : decode kb_M_victimOf 5 = .ok (.iaload, 1) := by decide +kernel
theorem kd_M_victimOf_6 : decode kb_M_victimOf 6 = .ok (.iconst 2, 1) := by decide +kernel
theorem kd_M_victimOf_7 : decode kb_M_victimOf 7 = .ok (.if_icmp .ne 10, 3) := by decide +kernel
theorem kd_M_victimOf_10 : decode kb_M_victimOf 10 = .ok (.aload_n 0, 1) := by decide +kernel
theorem kd_M_victimOf_11 : decode kb_M_victimOf 11 = .ok (.iload_n 1, 1) := by decide +kernel
theorem kd_M_victimOf_12 : decode kb_M_victimOf 12 = .ok (.iload_n 2, 1) := by decide +kernel
theorem kd_M_victimOf_13 : decode kb_M_victimOf 13 = .ok (.invokevirtual 81, 3) := by decide +kernel
theorem kd_M_victimOf_16 : decode kb_M_victimOf 16 = .ok (.ireturn, 1) := by decide +kernel
theorem kd_M_victimOf_17 : decode kb_M_victimOf 17 = .ok (.iconst 0, 1) := by decide +kernel
theorem kd_M_victimOf_18 : decode kb_M_victimOf 18 = .ok (.istore_n 3, 1) := by decide +kernel
theorem kd_M_victimOf_19 : decode kb_M_victimOf 19 = .ok (.iconst 1, 1) := by decide +kernel
theorem kd_M_victimOf_20 : decode kb_M_victimOf 20 = .ok (.istore 4, 2) := by decide +kernel
theorem kd_M_victimOf_22 : decode kb_M_victimOf 22 = .ok (.iload 4, 2) := by decide +kernel
theorem kd_M_victimOf_24 : decode kb_M_victimOf 24 = .ok (.aload_n 0, 1) := by decide +kernel
theorem kd_M_victimOf_25 : decode kb_M_victimOf 25 = .ok (.getfield 20, 3) := by decide +kernel
theorem kd_M_victimOf_28 : decode kb_M_victimOf 28 = .ok (.iload_n 1, 1) := by decide +kernel
theorem kd_M_victimOf_29 : decode kb_M_victimOf 29 = .ok (.iaload, 1) := by decide +kernel
theorem kd_M_victimOf_30 : decode kb_M_victimOf 30 = .ok (.if_icmp .ge 85, 3) := by decide +kernel
theorem kd_M_victimOf_33 : decode kb_M_victimOf 33 = .ok (.aload_n 0, 1) := by decide +kernel
theorem kd_M_victimOf_34 : decode kb_M_victimOf 34 = .ok (.getfield 23, 3) := by decide +kernel
theorem kd_M_victimOf_37 : decode kb_M_victimOf 37 = .ok (.iload_n 1, 1) := by decide +kernel
theorem kd_M_victimOf_38 : decode kb_M_victimOf 38 = .ok (.iaload, 1) := by decide +kernel
theorem kd_M_victimOf_39 : decode kb_M_victimOf 39 = .ok (.ifCond .ne 31, 3) := by decide +kernel
theorem kd_M_victimOf_42 : decode kb_M_victimOf 42 = .ok (.aload_n 0, 1) := by decide +kernel
theorem kd_M_victimOf_43 : decode kb_M_victimOf 43 = .ok (.getfield 47, 3) := by decide +kernel
theorem kd_M_victimOf_46 : decode kb_M_victimOf 46 = .ok (.iload_n 2, 1) := by decide +kernel
theorem kd_M_victimOf_47 : decode kb_M_victimOf 47 = .ok (.iload 4, 2) := by decide +kernel
theorem kd_M_victimOf_49 : decode kb_M_victimOf 49 = .ok (.iadd, 1) := by decide +kernel
theorem kd_M_victimOf_50 : decode kb_M_victimOf 50 = .ok (.iaload, 1) := by decide +kernel
theorem kd_M_victimOf_51 : decode kb_M_victimOf 51 = .ok (.aload_n 0, 1) := by decide +kernel
theorem kd_M_victimOf_52 : decode kb_M_victimOf 52 = .ok (.getfield 47, 3) := by decide +kernel
theorem kd_M_victimOf_55 : decode kb_M_victimOf 55 = .ok (.iload_n 2, 1) := by decide +kernel
theorem kd_M_victimOf_56 : decode kb_M_victimOf 56 = .ok (.iload_n 3, 1) := by decide +kernel
theorem kd_M_victimOf_57 : decode kb_M_victimOf 57 = .ok (.iadd, 1) := by decide +kernel
theorem kd_M_victimOf_58 : decode kb_M_victimOf 58 = .ok (.iaload, 1) := by decide +kernel
theorem kd_M_victimOf_59 : decode kb_M_victimOf 59 = .ok (.if_icmp .ge 7, 3) := by decide +kernel
theorem kd_M_victimOf_62 : decode kb_M_victimOf 62 = .ok (.iconst 1, 1) := by decide +kernel
theorem kd_M_victimOf_63 : decode kb_M_victimOf 63 = .ok (.goto 32, 3) := by decide +kernel
theorem kd_M_victimOf_66 : decode kb_M_victimOf 66 = .ok (.iconst 0, 1) := by decide +kernel
theorem kd_M_victimOf_67 : decode kb_M_victimOf 67 = .ok (.goto 28, 3) := by decide +kernel
theorem kd_M_victimOf_70 : decode kb_M_victimOf 70 = .ok (.aload_n 0, 1) := by decide +kernel
theorem kd_M_victimOf_71 : decode kb_M_victimOf 71 = .ok (.getfield 50, 3) := by decide +kernel
theorem kd_M_victimOf_74 : decode kb_M_victimOf 74 = .ok (.iload_n 2, 1) := by decide +kernel
theorem kd_M_victimOf_75 : decode kb_M_victimOf 75 = .ok (.iload 4, 2) := by decide +kernel
theorem kd_M_victimOf_77 : decode kb_M_victimOf 77 = .ok (.iadd, 1) := by decide +kernel
theorem kd_M_victimOf_78 : decode kb_M_victimOf 78 = .ok (.iaload, 1) := by decide +kernel
theorem kd_M_victimOf_79 : decode kb_M_victimOf 79 = .ok (.aload_n 0, 1) := by decide +kernel
theorem kd_M_victimOf_80 : decode kb_M_victimOf 80 = .ok (.getfield 50, 3) := by decide +kernel
theorem kd_M_victimOf_83 : decode kb_M_victimOf 83 = .ok (.iload_n 2, 1) := by decide +kernel
theorem kd_M_victimOf_84 : decode kb_M_victimOf 84 = .ok (.iload_n 3, 1) := by decide +kernel
theorem kd_M_victimOf_85 : decode kb_M_victimOf 85 = .ok (.iadd, 1) := by decide +kernel
theorem kd_M_victimOf_86 : decode kb_M_victimOf 86 = .ok (.iaload, 1) := by decide +kernel
theorem kd_M_victimOf_87 : decode kb_M_victimOf 87 = .ok (.if_icmp .ge 7, 3) := by decide +kernel
theorem kd_M_victimOf_90 : decode kb_M_victimOf 90 = .ok (.iconst 1, 1) := by decide +kernel
theorem kd_M_victimOf_91 : decode kb_M_victimOf 91 = .ok (.goto 4, 3) := by decide +kernel
theorem kd_M_victimOf_94 : decode kb_M_victimOf 94 = .ok (.iconst 0, 1) := by decide +kernel
theorem kd_M_victimOf_95 : decode kb_M_victimOf 95 = .ok (.istore 5, 2) := by decide +kernel
theorem kd_M_victimOf_97 : decode kb_M_victimOf 97 = .ok (.iload 5, 2) := by decide +kernel
theorem kd_M_victimOf_99 : decode kb_M_victimOf 99 = .ok (.ifCond .eq 8, 3) := by decide +kernel
theorem kd_M_victimOf_102 : decode kb_M_victimOf 102 = .ok (.iload 4, 2) := by decide +kernel
theorem kd_M_victimOf_104 : decode kb_M_victimOf 104 = .ok (.goto 4, 3) := by decide +kernel
theorem kd_M_victimOf_107 : decode kb_M_victimOf 107 = .ok (.iload_n 3, 1) := by decide +kernel
theorem kd_M_victimOf_108 : decode kb_M_victimOf 108 = .ok (.istore_n 3, 1) := by decide +kernel
theorem kd_M_victimOf_109 : decode kb_M_victimOf 109 = .ok (.iinc 4 1, 3) := by decide +kernel
theorem kd_M_victimOf_112 : decode kb_M_victimOf 112 = .ok (.goto (-90), 3) := by decide +kernel
theorem kd_M_victimOf_115 : decode kb_M_victimOf 115 = .ok (.iload_n 3, 1) := by decide +kernel
theorem kd_M_victimOf_116 : decode kb_M_victimOf 116 = .ok (.ireturn, 1) := by decide +kernel
theorem kd_M_pointed_0 : decode kb_M_pointed 0 = .ok (.iconst 1, 1) := by decide +kernel
theorem kd_M_pointed_1 : decode kb_M_pointed 1 = .ok (.istore_n 3, 1) := by decide +kernel
theorem kd_M_pointed_2 : decode kb_M_pointed 2 = .ok (.iconst 0, 1) := by decide +kernel
theorem kd_M_pointed_3 : decode kb_M_pointed 3 = .ok (.istore 4, 2) := by decide +kernel
theorem kd_M_pointed_5 : decode kb_M_pointed 5 = .ok (.aload_n 0, 1) := by decide +kernel
theorem kd_M_pointed_6 : decode kb_M_pointed 6 = .ok (.getfield 20, 3) := by decide +kernel
theorem kd_M_pointed_9 : decode kb_M_pointed 9 = .ok (.iload_n 1, 1) := by decide +kernel
theorem kd_M_pointed_10 : decode kb_M_pointed 10 = .ok (.iaload, 1) := by decide +kernel
theorem kd_M_pointed_11 : decode kb_M_pointed 11 = .ok (.iconst 2, 1) := by decide +kernel
theorem kd_M_pointed_12 : decode kb_M_pointed 12 = .ok (.idiv, 1) := by decide +kernel
theorem kd_M_pointed_13 : decode kb_M_pointed 13 = .ok (.istore 5, 2) := by decide +kernel
theorem kd_M_pointed_15 : decode kb_M_pointed 15 = .ok (.iload 5, 2) := by decide +kernel
theorem kd_M_pointed_17 : decode kb_M_pointed 17 = .ok (.ifCond .le 56, 3) := by decide +kernel
theorem kd_M_pointed_20 : decode kb_M_pointed 20 = .ok (.aload_n 0, 1) := by decide +kernel
theorem kd_M_pointed_21 : decode kb_M_pointed 21 = .ok (.getfield 53, 3) := by decide +kernel
theorem kd_M_pointed_24 : decode kb_M_pointed 24 = .ok (.iload_n 2, 1) := by decide +kernel
theorem kd_M_pointed_25 : decode kb_M_pointed 25 = .ok (.iload_n 3, 1) := by decide +kernel
theorem kd_M_pointed_26 : decode kb_M_pointed 26 = .ok (.iadd, 1) := by decide +kernel
theorem kd_M_pointed_27 : decode kb_M_pointed 27 = .ok (.baload, 1) := by decide +kernel
theorem kd_M_pointed_28 : decode kb_M_pointed 28 = .ok (.istore 6, 2) := by decide +kernel
theorem kd_M_pointed_30 : decode kb_M_pointed 30 = .ok (.iload 6, 2) := by decide +kernel
theorem kd_M_pointed_32 : decode kb_M_pointed 32 = .ok (.ifCond .eq 11, 3) := by decide +kernel
theorem kd_M_pointed_35 : decode kb_M_pointed 35 = .ok (.iload 4, 2) := by decide +kernel
theorem kd_M_pointed_37 : decode kb_M_pointed 37 = .ok (.iload 5, 2) := by decide +kernel
theorem kd_M_pointed_39 : decode kb_M_pointed 39 = .ok (.iadd, 1) := by decide +kernel
theorem kd_M_pointed_40 : decode kb_M_pointed 40 = .ok (.goto 5, 3) := by decide +kernel
theorem kd_M_pointed_43 : decode kb_M_pointed 43 = .ok (.iload 4, 2) := by decide +kernel
theorem kd_M_pointed_45 : decode kb_M_pointed 45 = .ok (.istore 4, 2) := by decide +kernel
theorem kd_M_pointed_47 : decode kb_M_pointed 47 = .ok (.iload 6, 2) := by decide +kernel
theorem kd_M_pointed_49 : decode kb_M_pointed 49 = .ok (.ifCond .eq 11, 3) := by decide +kernel
theorem kd_M_pointed_52 : decode kb_M_pointed 52 = .ok (.iconst 2, 1) := by decide +kernel
theorem kd_M_pointed_53 : decode kb_M_pointed 53 = .ok (.iload_n 3, 1) := by decide +kernel
theorem kd_M_pointed_54 : decode kb_M_pointed 54 = .ok (.imul, 1) := by decide +kernel
theorem kd_M_pointed_55 : decode kb_M_pointed 55 = .ok (.iconst 1, 1) := by decide +kernel
theorem kd_M_pointed_56 : decode kb_M_pointed 56 = .ok (.iadd, 1) := by decide +kernel
theorem kd_M_pointed_57 : decode kb_M_pointed 57 = .ok (.goto 6, 3) := by decide +kernel
theorem kd_M_pointed_60 : decode kb_M_pointed 60 = .ok (.iconst 2, 1) := by decide +kernel
theorem kd_M_pointed_61 : decode kb_M_pointed 61 = .ok (.iload_n 3, 1) := by decide +kernel
theorem kd_M_pointed_62 : decode kb_M_pointed 62 = .ok (.imul, 1) := by decide +kernel
theorem kd_M_pointed_63 : decode kb_M_pointed 63 = .ok (.istore_n 3, 1) := by decide +kernel
theorem kd_M_pointed_64 : decode kb_M_pointed 64 = .ok (.iload 5, 2) := by decide +kernel
theorem kd_M_pointed_66 : decode kb_M_pointed 66 = .ok (.iconst 2, 1) := by decide +kernel
theorem kd_M_pointed_67 : decode kb_M_pointed 67 = .ok (.idiv, 1) := by decide +kernel
theorem kd_M_pointed_68 : decode kb_M_pointed 68 = .ok (.istore 5, 2) := by decide +kernel
theorem kd_M_pointed_70 : decode kb_M_pointed 70 = .ok (.goto (-55), 3) := by decide +kernel
theorem kd_M_pointed_73 : decode kb_M_pointed 73 = .ok (.iload 4, 2) := by decide +kernel
theorem kd_M_pointed_75 : decode kb_M_pointed 75 = .ok (.ireturn, 1) := by decide +kernel
theorem kd_M_turn_0 : decode kb_M_turn 0 = .ok (.iconst 1, 1) := by decide +kernel
theorem kd_M_turn_1 : decode kb_M_turn 1 = .ok (.istore 4, 2) := by decide +kernel
theorem kd_M_turn_3 : decode kb_M_turn 3 = .ok (.iconst 0, 1) := by decide +kernel
theorem kd_M_turn_4 : decode kb_M_turn 4 = .ok (.istore 5, 2) := by decide +kernel
theorem kd_M_turn_6 : decode kb_M_turn 6 = .ok (.aload_n 0, 1) := by decide +kernel
theorem kd_M_turn_7 : decode kb_M_turn 7 = .ok (.getfield 20, 3) := by decide +kernel
theorem kd_M_turn_10 : decode kb_M_turn 10 = .ok (.iload_n 1, 1) := by decide +kernel
theorem kd_M_turn_11 : decode kb_M_turn 11 = .ok (.iaload, 1) := by decide +kernel
theorem kd_M_turn_12 : decode kb_M_turn 12 = .ok (.iconst 2, 1) := by decide +kernel
theorem kd_M_turn_13 : decode kb_M_turn 13 = .ok (.idiv, 1) := by decide +kernel
theorem kd_M_turn_14 : decode kb_M_turn 14 = .ok (.istore 6, 2) := by decide +kernel
theorem kd_M_turn_16 : decode kb_M_turn 16 = .ok (.iload 6, 2) := by decide +kernel
theorem kd_M_turn_18 : decode kb_M_turn 18 = .ok (.ifCond .le 84, 3) := by decide +kernel
theorem kd_M_turn_21 : decode kb_M_turn 21 = .ok (.iload_n 3, 1) := by decide +kernel
theorem kd_M_turn_22 : decode kb_M_turn 22 = .ok (.iload 5, 2) := by decide +kernel
theorem kd_M_turn_24 : decode kb_M_turn 24 = .ok (.iload 6, 2) := by decide +kernel
theorem kd_M_turn_26 : decode kb_M_turn 26 = .ok (.iadd, 1) := by decide +kernel
theorem kd_M_turn_27 : decode kb_M_turn 27 = .ok (.if_icmp .lt 7, 3) := by decide +kernel
theorem kd_M_turn_30 : decode kb_M_turn 30 = .ok (.iconst 1, 1) := by decide +kernel
theorem kd_M_turn_31 : decode kb_M_turn 31 = .ok (.goto 4, 3) := by decide +kernel
theorem kd_M_turn_34 : decode kb_M_turn 34 = .ok (.iconst 0, 1) := by decide +kernel
theorem kd_M_turn_35 : decode kb_M_turn 35 = .ok (.istore 7, 2) := by decide +kernel
theorem kd_M_turn_37 : decode kb_M_turn 37 = .ok (.aload_n 0, 1) := by decide +kernel
theorem kd_M_turn_38 : decode kb_M_turn 38 = .ok (.getfield 53, 3) := by decide +kernel
theorem kd_M_turn_41 : decode kb_M_turn 41 = .ok (.iload_n 2, 1) := by decide +kernel
theorem kd_M_turn_42 : decode kb_M_turn 42 = .ok (.iload 4, 2) := by decide +kernel
theorem kd_M_turn_44 : decode kb_M_turn 44 = .ok (.iadd, 1) := by decide +kernel
theorem kd_M_turn_45 : decode kb_M_turn 45 = .ok (.iload 7, 2) := by decide +kernel
theorem kd_M_turn_47 : decode kb_M_turn 47 = .ok (.ifCond .ne 7, 3) := by decide +kernel
theorem kd_M_turn_50 : decode kb_M_turn 50 = .ok (.iconst 1, 1) := by decide +kernel
theorem kd_M_turn_51 : decode kb_M_turn 51 = .ok (.goto 4, 3) := by decide +kernel
theorem kd_M_turn_54 : decode kb_M_turn 54 = .ok (.iconst 0, 1) := by decide +kernel
theorem kd_M_turn_55 : decode kb_M_turn 55 = .ok (.bastore, 1) := by decide +kernel
theorem kd_M_turn_56 : decode kb_M_turn 56 = .ok (.iload 7, 2) := by decide +kernel
theorem kd_M_turn_58 : decode kb_M_turn 58 = .ok (.ifCond .eq 11, 3) := by decide +kernel
theorem kd_M_turn_61 : decode kb_M_turn 61 = .ok (.iload 5, 2) := by decide +kernel
theorem kd_M_turn_63 : decode kb_M_turn 63 = .ok (.iload 6, 2) := by decide +kernel
theorem kd_M_turn_65 : decode kb_M_turn 65 = .ok (.iadd, 1) := by decide +kernel
theorem kd_M_turn_66 : decode kb_M_turn 66 = .ok (.goto 5, 3) := by decide +kernel
theorem kd_M_turn_69 : decode kb_M_turn 69 = .ok (.iload 5, 2) := by decide +kernel
theorem kd_M_turn_71 : decode kb_M_turn 71 = .ok (.istore 5, 2) := by decide +kernel
theorem kd_M_turn_73 : decode kb_M_turn 73 = .ok (.iload 7, 2) := by decide +kernel
theorem kd_M_turn_75 : decode kb_M_turn 75 = .ok (.ifCond .eq 12, 3) := by decide +kernel
theorem kd_M_turn_78 : decode kb_M_turn 78 = .ok (.iconst 2, 1) := by decide +kernel
theorem kd_M_turn_79 : decode kb_M_turn 79 = .ok (.iload 4, 2) := by decide +kernel
theorem kd_M_turn_81 : decode kb_M_turn 81 = .ok (.imul, 1) := by decide +kernel
theorem kd_M_turn_82 : decode kb_M_turn 82 = .ok (.iconst 1, 1) := by decide +kernel
theorem kd_M_turn_83 : decode kb_M_turn 83 = .ok (.iadd, 1) := by decide +kernel
theorem kd_M_turn_84 : decode kb_M_turn 84 = .ok (.goto 7, 3) := by decide +kernel
theorem kd_M_turn_87 : decode kb_M_turn 87 = .ok (.iconst 2, 1) := by decide +kernel
theorem kd_M_turn_88 : decode kb_M_turn 88 = .ok (.iload 4, 2) := by decide +kernel
theorem kd_M_turn_90 : decode kb_M_turn 90 = .ok (.imul, 1) := by decide +kernel
theorem kd_M_turn_91 : decode kb_M_turn 91 = .ok (.istore 4, 2) := by decide +kernel
theorem kd_M_turn_93 : decode kb_M_turn 93 = .ok (.iload 6, 2) := by decide +kernel
theorem kd_M_turn_95 : decode kb_M_turn 95 = .ok (.iconst 2, 1) := by decide +kernel
theorem kd_M_turn_96 : decode kb_M_turn 96 = .ok (.idiv, 1) := by decide +kernel
theorem kd_M_turn_97 : decode kb_M_turn 97 = .ok (.istore 6, 2) := by decide +kernel
theorem kd_M_turn_99 : decode kb_M_turn 99 = .ok (.goto (-83), 3) := by decide +kernel
theorem kd_M_turn_102 : decode kb_M_turn 102 = .ok (.return_, 1) := by decide +kernel
theorem kd_M_flush_0 : decode kb_M_flush 0 = .ok (.aload_n 0, 1) := by decide +kernel
theorem kd_M_flush_1 : decode kb_M_flush 1 = .ok (.aload_n 0, 1) := by decide +kernel
theorem kd_M_flush_2 : decode kb_M_flush 2 = .ok (.iload_n 1, 1) := by decide +kernel
theorem kd_M_flush_3 : decode kb_M_flush 3 = .ok (.invokevirtual 103, 3) := by decide +kernel
theorem kd_M_flush_6 : decode kb_M_flush 6 = .ok (.ifCond .ne 7, 3) := by decide +kernel
theorem kd_M_flush_9 : decode kb_M_flush 9 = .ok (.iconst 1, 1) := by decide +kernel
theorem kd_M_flush_10 : decode kb_M_flush 10 = .ok (.goto 4, 3) := by decide +kernel
theorem kd_M_flush_13 : decode kb_M_flush 13 = .ok (.iconst 0, 1) := by decide +kernel
theorem kd_M_flush_14 : decode kb_M_flush 14 = .ok (.iconst 0, 1) := by decide +kernel
theorem kd_M_flush_15 : decode kb_M_flush 15 = .ok (.iconst 0, 1) := by decide +kernel
theorem kd_M_flush_16 : decode kb_M_flush 16 = .ok (.invokevirtual 73, 3) := by decide +kernel
theorem kd_M_flush_19 : decode kb_M_flush 19 = .ok (.ifCond .eq 5, 3) := by decide +kernel
theorem kd_M_flush_22 : decode kb_M_flush 22 = .ok (.iconst 0, 1) := by decide +kernel
theorem kd_M_flush_23 : decode kb_M_flush 23 = .ok (.ireturn, 1) := by decide +kernel
theorem kd_M_flush_24 : decode kb_M_flush 24 = .ok (.aload_n 0, 1) := by decide +kernel
theorem kd_M_flush_25 : decode kb_M_flush 25 = .ok (.iload_n 1, 1) := by decide +kernel
theorem kd_M_flush_26 : decode kb_M_flush 26 = .ok (.iconst 1, 1) := by decide +kernel
theorem kd_M_flush_27 : decode kb_M_flush 27 = .ok (.invokevirtual 107, 3) := by decide +kernel
theorem kd_M_flush_30 : decode kb_M_flush 30 = .ok (.istore_n 2, 1) := by decide +kernel
theorem kd_M_flush_31 : decode kb_M_flush 31 = .ok (.aload_n 0, 1) := by decide +kernel
theorem kd_M_flush_32 : decode kb_M_flush 32 = .ok (.getfield 38, 3) := by decide +kernel
theorem kd_M_flush_35 : decode kb_M_flush 35 = .ok (.iload_n 1, 1) := by decide +kernel
theorem kd_M_flush_36 : decode kb_M_flush 36 = .ok (.dup2, 1) := by decide +kernel
theorem kd_M_flush_37 : decode kb_M_flush 37 = .ok (.iaload, 1) := by decide +kernel
theorem kd_M_flush_38 : decode kb_M_flush 38 = .ok (.iload_n 2, 1) := by decide +kernel
theorem kd_M_flush_39 : decode kb_M_flush 39 = .ok (.iadd, 1) := by decide +kernel
theorem kd_M_flush_40 : decode kb_M_flush 40 = .ok (.iastore, 1) := by decide +kernel
theorem kd_M_flush_41 : decode kb_M_flush 41 = .ok (.aload_n 0, 1) := by decide +kernel
theorem kd_M_flush_42 : decode kb_M_flush 42 = .ok (.iload_n 1, 1) := by decide +kernel
theorem kd_M_flush_43 : decode kb_M_flush 43 = .ok (.invokevirtual 77, 3) := by decide +kernel
theorem kd_M_flush_46 : decode kb_M_flush 46 = .ok (.iload_n 2, 1) := by decide +kernel
theorem kd_M_flush_47 : decode kb_M_flush 47 = .ok (.ireturn, 1) := by decide +kernel
theorem kd_M_isThere_0 : decode kb_M_isThere 0 = .ok (.iload_n 1, 1) := by decide +kernel
theorem kd_M_isThere_1 : decode kb_M_isThere 1 = .ok (.iconst 0, 1) := by decide +kernel
theorem kd_M_isThere_2 : decode kb_M_isThere 2 = .ok (.iconst 3, 1) := by decide +kernel
theorem kd_M_isThere_3 : decode kb_M_isThere 3 = .ok (.invokestatic 69, 3) := by decide +kernel
theorem kd_M_isThere_6 : decode kb_M_isThere 6 = .ok (.ifCond .eq 29, 3) := by decide +kernel
theorem kd_M_isThere_9 : decode kb_M_isThere 9 = .ok (.aload_n 0, 1) := by decide +kernel
theorem kd_M_isThere_10 : decode kb_M_isThere 10 = .ok (.getfield 13, 3) := by decide +kernel
theorem kd_M_isThere_13 : decode kb_M_isThere 13 = .ok (.iload_n 1, 1) := by decide +kernel
theorem kd_M_isThere_14 : decode kb_M_isThere 14 = .ok (.iconst 0, 1) := by decide +kernel
theorem kd_M_isThere_15 : decode kb_M_isThere 15 = .ok (.iconst 3, 1) := by decide +kernel
theorem kd_M_isThere_16 : decode kb_M_isThere 16 = .ok (.invokestatic 69, 3) := by decide +kernel
theorem kd_M_isThere_19 : decode kb_M_isThere 19 = .ok (.ifCond .eq 7, 3) := by decide +kernel
theorem kd_M_isThere_22 : decode kb_M_isThere 22 = .ok (.iload_n 1, 1) := by decide +kernel
theorem kd_M_isThere_23 : decode kb_M_isThere 23 = .ok (.goto 4, 3) := by decide +kernel
theorem kd_M_isThere_26 : decode kb_M_isThere 26 = .ok (.iconst 0, 1) := by decide +kernel
theorem kd_M_isThere_27 : decode kb_M_isThere 27 = .ok (.baload, 1) := by decide +kernel
theorem kd_M_isThere_28 : decode kb_M_isThere 28 = .ok (.ifCond .eq 7, 3) := by decide +kernel
theorem kd_M_isThere_31 : decode kb_M_isThere 31 = .ok (.iconst 1, 1) := by decide +kernel
theorem kd_M_isThere_32 : decode kb_M_isThere 32 = .ok (.goto 4, 3) := by decide +kernel
theorem kd_M_isThere_35 : decode kb_M_isThere 35 = .ok (.iconst 0, 1) := by decide +kernel
theorem kd_M_isThere_36 : decode kb_M_isThere 36 = .ok (.ireturn, 1) := by decide +kernel
theorem kd_M_count_0 : decode kb_M_count 0 = .ok (.iconst 0, 1) := by decide +kernel
theorem kd_M_count_1 : decode kb_M_count 1 = .ok (.istore_n 3, 1) := by decide +kernel
theorem kd_M_count_2 : decode kb_M_count 2 = .ok (.iconst 0, 1) := by decide +kernel
theorem kd_M_count_3 : decode kb_M_count 3 = .ok (.istore 4, 2) := by decide +kernel
theorem kd_M_count_5 : decode kb_M_count 5 = .ok (.iload 4, 2) := by decide +kernel
theorem kd_M_count_7 : decode kb_M_count 7 = .ok (.sipush 128, 3) := by decide +kernel
theorem kd_M_count_10 : decode kb_M_count 10 = .ok (.if_icmp .ge 53, 3) := by decide +kernel
theorem kd_M_count_13 : decode kb_M_count 13 = .ok (.aload_n 0, 1) := by decide +kernel
theorem kd_M_count_14 : decode kb_M_count 14 = .ok (.getfield 41, 3) := by decide +kernel
theorem kd_M_count_17 : decode kb_M_count 17 = .ok (.sipush 128, 3) := by decide +kernel
theorem kd_M_count_20 : decode kb_M_count 20 = .ok (.iload_n 1, 1) := by decide +kernel
theorem kd_M_count_21 : decode kb_M_count 21 = .ok (.imul, 1) := by decide +kernel
theorem kd_M_count_22 : decode kb_M_count 22 = .ok (.iload 4, 2) := by decide +kernel
theorem kd_M_count_24 : decode kb_M_count 24 = .ok (.iadd, 1) := by decide +kernel
theorem kd_M_count_25 : decode kb_M_count 25 = .ok (.iaload, 1) := by decide +kernel
theorem kd_M_count_26 : decode kb_M_count 26 = .ok (.ifCond .lt 29, 3) := by decide +kernel
theorem kd_M_count_29 : decode kb_M_count 29 = .ok (.iload_n 2, 1) := by decide +kernel
theorem kd_M_count_30 : decode kb_M_count 30 = .ok (.ifCond .eq 19, 3) := by decide +kernel
theorem kd_M_count_33 : decode kb_M_count 33 = .ok (.aload_n 0, 1) := by decide +kernel
theorem kd_M_count_34 : decode kb_M_count 34 = .ok (.getfield 44, 3) := by decide +kernel
theorem kd_M_count_37 : decode kb_M_count 37 = .ok (.sipush 128, 3) := by decide +kernel
theorem kd_M_count_40 : decode kb_M_count 40 = .ok (.iload_n 1, 1) := by decide +kernel
theorem kd_M_count_41 : decode kb_M_count 41 = .ok (.imul, 1) := by decide +kernel
theorem kd_M_count_42 : decode kb_M_count 42 = .ok (.iload 4, 2) := by decide +kernel
theorem kd_M_count_44 : decode kb_M_count 44 = .ok (.iadd, 1) := by decide +kernel
theorem kd_M_count_45 : decode kb_M_count 45 = .ok (.baload, 1) := by decide +kernel
theorem kd_M_count_46 : decode kb_M_count 46 = .ok (.ifCond .eq 9, 3) := by decide +kernel
theorem kd_M_count_49 : decode kb_M_count 49 = .ok (.iload_n 3, 1) := by decide +kernel
theorem kd_M_count_50 : decode kb_M_count 50 = .ok (.iconst 1, 1) := by decide +kernel
theorem kd_M_count_51 : decode kb_M_count 51 = .ok (.iadd, 1) := by decide +kernel
theorem kd_M_count_52 : decode kb_M_count 52 = .ok (.goto 4, 3) := by decide +kernel
theorem kd_M_count_55 : decode kb_M_count 55 = .ok (.iload_n 3, 1) := by decide +kernel
theorem kd_M_count_56 : decode kb_M_count 56 = .ok (.istore_n 3, 1) := by decide +kernel
theorem kd_M_count_57 : decode kb_M_count 57 = .ok (.iinc 4 1, 3) := by decide +kernel
theorem kd_M_count_60 : decode kb_M_count 60 = .ok (.goto (-55), 3) := by decide +kernel
theorem kd_M_count_63 : decode kb_M_count 63 = .ok (.iload_n 3, 1) := by decide +kernel
theorem kd_M_count_64 : decode kb_M_count 64 = .ok (.ireturn, 1) := by decide +kernel
theorem kd_M_place_0 : decode kb_M_place 0 = .ok (.aload_n 0, 1) := by decide +kernel
theorem kd_M_place_1 : decode kb_M_place 1 = .ok (.iload_n 1, 1) := by decide +kernel
theorem kd_M_place_2 : decode kb_M_place 2 = .ok (.invokevirtual 103, 3) := by decide +kernel
theorem kd_M_place_5 : decode kb_M_place 5 = .ok (.istore 5, 2) := by decide +kernel
theorem kd_M_place_7 : decode kb_M_place 7 = .ok (.iload 5, 2) := by decide +kernel
theorem kd_M_place_9 : decode kb_M_place 9 = .ok (.ifCond .eq 59, 3) := by decide +kernel
theorem kd_M_place_12 : decode kb_M_place 12 = .ok (.iload_n 2, 1) := by decide +kernel
theorem kd_M_place_13 : decode kb_M_place 13 = .ok (.iconst 0, 1) := by decide +kernel
theorem kd_M_place_14 : decode kb_M_place 14 = .ok (.iconst 1, 1) := by decide +kernel
theorem kd_M_place_15 : decode kb_M_place 15 = .ok (.aload_n 0, 1) := by decide +kernel
theorem kd_M_place_16 : decode kb_M_place 16 = .ok (.getfield 17, 3) := by decide +kernel
theorem kd_M_place_19 : decode kb_M_place 19 = .ok (.iload 5, 2) := by decide +kernel
theorem kd_M_place_21 : decode kb_M_place 21 = .ok (.ifCond .eq 7, 3) := by decide +kernel
theorem kd_M_place_24 : decode kb_M_place 24 = .ok (.iload_n 1, 1) := by decide +kernel
theorem kd_M_place_25 : decode kb_M_place 25 = .ok (.goto 4, 3) := by decide +kernel
theorem kd_M_place_28 : decode kb_M_place 28 = .ok (.iconst 0, 1) := by decide +kernel
theorem kd_M_place_29 : decode kb_M_place 29 = .ok (.iaload, 1) := by decide +kernel
theorem kd_M_place_30 : decode kb_M_place 30 = .ok (.ishl, 1) := by decide +kernel
theorem kd_M_place_31 : decode kb_M_place 31 = .ok (.iconst 1, 1) := by decide +kernel
theorem kd_M_place_32 : decode kb_M_place 32 = .ok (.isub, 1) := by decide +kernel
theorem kd_M_place_33 : decode kb_M_place 33 = .ok (.invokestatic 69, 3) := by decide +kernel
theorem kd_M_place_36 : decode kb_M_place 36 = .ok (.ifCond .eq 32, 3) := by decide +kernel
theorem kd_M_place_39 : decode kb_M_place 39 = .ok (.iload_n 3, 1) := by decide +kernel
theorem kd_M_place_40 : decode kb_M_place 40 = .ok (.iconst 0, 1) := by decide +kernel
theorem kd_M_place_41 : decode kb_M_place 41 = .ok (.aload_n 0, 1) := by decide +kernel
theorem kd_M_place_42 : decode kb_M_place 42 = .ok (.getfield 20, 3) := by decide +kernel
theorem kd_M_place_45 : decode kb_M_place 45 = .ok (.iload 5, 2) := by decide +kernel
theorem kd_M_place_47 : decode kb_M_place 47 = .ok (.ifCond .eq 7, 3) := by decide +kernel
theorem kd_M_place_50 : decode kb_M_place 50 = .ok (.iload_n 1, 1) := by decide +kernel
theorem kd_M_place_51 : decode kb_M_place 51 = .ok (.goto 4, 3) := by decide +kernel
theorem kd_M_place_54 : decode kb_M_place 54 = .ok (.iconst 0, 1) := by decide +kernel
theorem kd_M_place_55 : decode kb_M_place 55 = .ok (.iaload, 1) := by decide +kernel
theorem kd_M_place_56 : decode kb_M_place 56 = .ok (.iconst 1, 1) := by decide +kernel
theorem kd_M_place_57 : decode kb_M_place 57 = .ok (.isub, 1) := by decide +kernel
theorem kd_M_place_58 : decode kb_M_place 58 = .ok (.invokestatic 69, 3) := by decide +kernel
theorem kd_M_place_61 : decode kb_M_place 61 = .ok (.ifCond .eq 7, 3) := by decide +kernel
theorem kd_M_place_64 : decode kb_M_place 64 = .ok (.iconst 1, 1) := by decide +kernel
theorem kd_M_place_65 : decode kb_M_place 65 = .ok (.goto 4, 3) := by decide +kernel
theorem kd_M_place_68 : decode kb_M_place 68 = .ok (.iconst 0, 1) := by decide +kernel
theorem kd_M_place_69 : decode kb_M_place 69 = .ok (.istore 6, 2) := by decide +kernel
theorem kd_M_place_71 : decode kb_M_place 71 = .ok (.aload_n 0, 1) := by decide +kernel
theorem kd_M_place_72 : decode kb_M_place 72 = .ok (.iload 5, 2) := by decide +kernel
theorem kd_M_place_74 : decode kb_M_place 74 = .ok (.ifCond .ne 7, 3) := by decide +kernel
theorem kd_M_place_77 : decode kb_M_place 77 = .ok (.iconst 1, 1) := by decide +kernel
theorem kd_M_place_78 : decode kb_M_place 78 = .ok (.goto 4, 3) := by decide +kernel
theorem kd_M_place_81 : decode kb_M_place 81 = .ok (.iconst 0, 1) := by decide +kernel
theorem kd_M_place_82 : decode kb_M_place 82 = .ok (.iload 5, 2) := by decide +kernel
theorem kd_M_place_84 : decode kb_M_place 84 = .ok (.ifCond .eq 12, 3) := by decide +kernel
theorem kd_M_place_87 : decode kb_M_place 87 = .ok (.iload 6, 2) := by decide +kernel
theorem kd_M_place_89 : decode kb_M_place 89 = .ok (.ifCond .ne 7, 3) := by decide +kernel
theorem kd_M_place_92 : decode kb_M_place 92 = .ok (.iconst 1, 1) := by decide +kernel
theorem kd_M_place_93 : decode kb_M_place 93 = .ok (.goto 4, 3) := by decide +kernel
theorem kd_M_place_96 : decode kb_M_place 96 = .ok (.iconst 0, 1) := by decide +kernel
theorem kd_M_place_97 : decode kb_M_place 97 = .ok (.iload 6, 2) := by decide +kernel
theorem kd_M_place_99 : decode kb_M_place 99 = .ok (.ifCond .eq 17, 3) := by decide +kernel
theorem kd_M_place_102 : decode kb_M_place 102 = .ok (.iload 4, 2) := by decide +kernel
theorem kd_M_place_104 : decode kb_M_place 104 = .ok (.iconst 0, 1) := by decide +kernel
theorem kd_M_place_105 : decode kb_M_place 105 = .ok (.iconst 1, 1) := by decide +kernel
theorem kd_M_place_106 : decode kb_M_place 106 = .ok (.invokestatic 69, 3) := by decide +kernel
theorem kd_M_place_109 : decode kb_M_place 109 = .ok (.ifCond .ne 7, 3) := by decide +kernel
theorem kd_M_place_112 : decode kb_M_place 112 = .ok (.iconst 1, 1) := by decide +kernel
theorem kd_M_place_113 : decode kb_M_place 113 = .ok (.goto 4, 3) := by decide +kernel
theorem kd_M_place_116 : decode kb_M_place 116 = .ok (.iconst 0, 1) := by decide +kernel
theorem kd_M_place_117 : decode kb_M_place 117 = .ok (.invokevirtual 73, 3) := by decide +kernel
theorem kd_M_place_120 : decode kb_M_place 120 = .ok (.ifCond .eq 5, 3) := by decide +kernel
theorem kd_M_place_123 : decode kb_M_place 123 = .ok (.iconst 0, 1) := by decide +kernel
theorem kd_M_place_124 : decode kb_M_place 124 = .ok (.ireturn, 1) := by decide +kernel
theorem kd_M_place_125 : decode kb_M_place 125 = .ok (.sipush 128, 3) := by decide +kernel
theorem kd_M_place_128 : decode kb_M_place 128 = .ok (.iload_n 1, 1) := by decide +kernel
theorem kd_M_place_129 : decode kb_M_place 129 = .ok (.imul, 1) := by decide +kernel
theorem kd_M_place_130 : decode kb_M_place 130 = .ok (.bipush 8, 2) := by decide +kernel
theorem kd_M_place_132 : decode kb_M_place 132 = .ok (.iload_n 2, 1) := by decide +kernel
theorem kd_M_place_133 : decode kb_M_place 133 = .ok (.imul, 1) := by decide +kernel
theorem kd_M_place_134 : decode kb_M_place 134 = .ok (.iadd, 1) := by decide +kernel
theorem kd_M_place_135 : decode kb_M_place 135 = .ok (.iload_n 3, 1) := by decide +kernel
theorem kd_M_place_136 : decode kb_M_place 136 = .ok (.iadd, 1) := by decide +kernel
theorem kd_M_place_137 : decode kb_M_place 137 = .ok (.istore 7, 2) := by decide +kernel
theorem kd_M_place_139 : decode kb_M_place 139 = .ok (.iload 4, 2) := by decide +kernel
theorem kd_M_place_141 : decode kb_M_place 141 = .ok (.ifCond .ne 13, 3) := by decide +kernel
theorem kd_M_place_144 : decode kb_M_place 144 = .ok (.aload_n 0, 1) := by decide +kernel
theorem kd_M_place_145 : decode kb_M_place 145 = .ok (.getfield 41, 3) := by decide +kernel
theorem kd_M_place_148 : decode kb_M_place 148 = .ok (.iload 7, 2) := by decide +kernel
theorem kd_M_place_150 : decode kb_M_place 150 = .ok (.iaload, 1) := by decide +kernel
theorem kd_M_place_151 : decode kb_M_place 151 = .ok (.goto 18, 3) := by decide +kernel
theorem kd_M_place_154 : decode kb_M_place 154 = .ok (.aload_n 0, 1) := by decide +kernel
theorem kd_M_place_155 : decode kb_M_place 155 = .ok (.getfield 44, 3) := by decide +kernel
theorem kd_M_place_158 : decode kb_M_place 158 = .ok (.iload 7, 2) := by decide +kernel
theorem kd_M_place_160 : decode kb_M_place 160 = .ok (.baload, 1) := by decide +kernel
theorem kd_M_place_161 : decode kb_M_place 161 = .ok (.ifCond .eq 7, 3) := by decide +kernel
theorem kd_M_place_164 : decode kb_M_place 164 = .ok (.iconst 1, 1) := by decide +kernel
theorem kd_M_place_165 : decode kb_M_place 165 = .ok (.goto 4, 3) := by decide +kernel
theorem kd_M_place_168 : decode kb_M_place 168 = .ok (.iconst 0, 1) := by decide +kernel
theorem kd_M_place_169 : decode kb_M_place 169 = .ok (.ireturn, 1) := by decide +kernel
theorem kd_M_about_0 : decode kb_M_about 0 = .ok (.aload_n 0, 1) := by decide +kernel
theorem kd_M_about_1 : decode kb_M_about 1 = .ok (.iload_n 1, 1) := by decide +kernel
theorem kd_M_about_2 : decode kb_M_about 2 = .ok (.invokevirtual 103, 3) := by decide +kernel
theorem kd_M_about_5 : decode kb_M_about 5 = .ok (.istore_n 3, 1) := by decide +kernel
theorem kd_M_about_6 : decode kb_M_about 6 = .ok (.aload_n 0, 1) := by decide +kernel
theorem kd_M_about_7 : decode kb_M_about 7 = .ok (.iload_n 3, 1) := by decide +kernel
theorem kd_M_about_8 : decode kb_M_about 8 = .ok (.ifCond .ne 7, 3) := by decide +kernel
theorem kd_M_about_11 : decode kb_M_about 11 = .ok (.iconst 1, 1) := by decide +kernel
theorem kd_M_about_12 : decode kb_M_about 12 = .ok (.goto 4, 3) := by decide +kernel
theorem kd_M_about_15 : decode kb_M_about 15 = .ok (.iconst 0, 1) := by decide +kernel
theorem kd_M_about_16 : decode kb_M_about 16 = .ok (.iload_n 3, 1) := by decide +kernel
theorem kd_M_about_17 : decode kb_M_about 17 = .ok (.ifCond .eq 16, 3) := by decide +kernel
theorem kd_M_about_20 : decode kb_M_about 20 = .ok (.iload_n 2, 1) := by decide +kernel
theorem kd_M_about_21 : decode kb_M_about 21 = .ok (.iconst 0, 1) := by decide +kernel
theorem kd_M_about_22 : decode kb_M_about 22 = .ok (.iconst 5, 1) := by decide +kernel
theorem kd_M_about_23 : decode kb_M_about 23 = .ok (.invokestatic 69, 3) := by decide +kernel
theorem kd_M_about_26 : decode kb_M_about 26 = .ok (.ifCond .ne 7, 3) := by decide +kernel
theorem kd_M_about_29 : decode kb_M_about 29 = .ok (.iconst 1, 1) := by decide +kernel
theorem kd_M_about_30 : decode kb_M_about 30 = .ok (.goto 4, 3) := by decide +kernel
theorem kd_M_about_33 : decode kb_M_about 33 = .ok (.iconst 0, 1) := by decide +kernel
theorem kd_M_about_34 : decode kb_M_about 34 = .ok (.iconst 0, 1) := by decide +kernel
theorem kd_M_about_35 : decode kb_M_about 35 = .ok (.invokevirtual 73, 3) := by decide +kernel
theorem kd_M_about_38 : decode kb_M_about 38 = .ok (.ifCond .eq 5, 3) := by decide +kernel
theorem kd_M_about_41 : decode kb_M_about 41 = .ok (.iconst 0, 1) := by decide +kernel
theorem kd_M_about_42 : decode kb_M_about 42 = .ok (.ireturn, 1) := by decide +kernel
theorem kd_M_about_43 : decode kb_M_about 43 = .ok (.iload_n 2, 1) := by decide +kernel
theorem kd_M_about_44 : decode kb_M_about 44 = .ok (.tableswitch 71 0 4 #[36, 43, 50, 57, 64], 36) := by decide +kernel
theorem kd_M_about_80 : decode kb_M_about 80 = .ok (.aload_n 0, 1) := by decide +kernel
theorem kd_M_about_81 : decode kb_M_about 81 = .ok (.getfield 29, 3) := by decide +kernel
theorem kd_M_about_84 : decode kb_M_about 84 = .ok (.iload_n 1, 1) := by decide +kernel
theorem kd_M_about_85 : decode kb_M_about 85 = .ok (.iaload, 1) := by decide +kernel
theorem kd_M_about_86 : decode kb_M_about 86 = .ok (.ireturn, 1) := by decide +kernel
theorem kd_M_about_87 : decode kb_M_about 87 = .ok (.aload_n 0, 1) := by decide +kernel
theorem kd_M_about_88 : decode kb_M_about 88 = .ok (.getfield 32, 3) := by decide +kernel
theorem kd_M_about_91 : decode kb_M_about 91 = .ok (.iload_n 1, 1) := by decide +kernel
theorem kd_M_about_92 : decode kb_M_about 92 = .ok (.iaload, 1) := by decide +kernel
theorem kd_M_about_93 : decode kb_M_about 93 = .ok (.ireturn, 1) := by decide +kernel
theorem kd_M_about_94 : decode kb_M_about 94 = .ok (.aload_n 0, 1) := by decide +kernel
theorem kd_M_about_95 : decode kb_M_about 95 = .ok (.getfield 35, 3) := by decide +kernel
theorem kd_M_about_98 : decode kb_M_about 98 = .ok (.iload_n 1, 1) := by decide +kernel
theorem kd_M_about_99 : decode kb_M_about 99 = .ok (.iaload, 1) := by decide +kernel
theorem kd_M_about_100 : decode kb_M_about 100 = .ok (.ireturn, 1) := by decide +kernel
theorem kd_M_about_101 : decode kb_M_about 101 = .ok (.aload_n 0, 1) := by decide +kernel
theorem kd_M_about_102 : decode kb_M_about 102 = .ok (.getfield 38, 3) := by decide +kernel
theorem kd_M_about_105 : decode kb_M_about 105 = .ok (.iload_n 1, 1) := by decide +kernel
theorem kd_M_about_106 : decode kb_M_about 106 = .ok (.iaload, 1) := by decide +kernel
theorem kd_M_about_107 : decode kb_M_about 107 = .ok (.ireturn, 1) := by decide +kernel
theorem kd_M_about_108 : decode kb_M_about 108 = .ok (.aload_n 0, 1) := by decide +kernel
theorem kd_M_about_109 : decode kb_M_about 109 = .ok (.iload_n 1, 1) := by decide +kernel
theorem kd_M_about_110 : decode kb_M_about 110 = .ok (.iconst 0, 1) := by decide +kernel
theorem kd_M_about_111 : decode kb_M_about 111 = .ok (.invokevirtual 107, 3) := by decide +kernel
theorem kd_M_about_114 : decode kb_M_about 114 = .ok (.ireturn, 1) := by decide +kernel
theorem kd_M_about_115 : decode kb_M_about 115 = .ok (.aload_n 0, 1) := by decide +kernel
theorem kd_M_about_116 : decode kb_M_about 116 = .ok (.iload_n 1, 1) := by decide +kernel
theorem kd_M_about_117 : decode kb_M_about 117 = .ok (.iconst 1, 1) := by decide +kernel
theorem kd_M_about_118 : decode kb_M_about 118 = .ok (.invokevirtual 107, 3) := by decide +kernel
theorem kd_M_about_121 : decode kb_M_about 121 = .ok (.ireturn, 1) := by decide +kernel
theorem kd_M_accesses_0 : decode kb_M_accesses 0 = .ok (.aload_n 0, 1) := by decide +kernel
theorem kd_M_accesses_1 : decode kb_M_accesses 1 = .ok (.iconst 0, 1) := by decide +kernel
theorem kd_M_accesses_2 : decode kb_M_accesses 2 = .ok (.putfield 65, 3) := by decide +kernel
theorem kd_M_accesses_5 : decode kb_M_accesses 5 = .ok (.aload_n 0, 1) := by decide +kernel
theorem kd_M_accesses_6 : decode kb_M_accesses 6 = .ok (.getfield 92, 3) := by decide +kernel
theorem kd_M_accesses_9 : decode kb_M_accesses 9 = .ok (.ireturn, 1) := by decide +kernel
theorem kd_M_curve_0 : decode kb_M_curve 0 = .ok (.aload_n 0, 1) := by decide +kernel
theorem kd_M_curve_1 : decode kb_M_curve 1 = .ok (.iload_n 1, 1) := by decide +kernel
theorem kd_M_curve_2 : decode kb_M_curve 2 = .ok (.iconst 1, 1) := by decide +kernel
theorem kd_M_curve_3 : decode kb_M_curve 3 = .ok (.bipush 64, 2) := by decide +kernel
theorem kd_M_curve_5 : decode kb_M_curve 5 = .ok (.invokestatic 69, 3) := by decide +kernel
theorem kd_M_curve_8 : decode kb_M_curve 8 = .ok (.ifCond .eq 13, 3) := by decide +kernel
theorem kd_M_curve_11 : decode kb_M_curve 11 = .ok (.iload_n 2, 1) := by decide +kernel
theorem kd_M_curve_12 : decode kb_M_curve 12 = .ok (.iconst 0, 1) := by decide +kernel
theorem kd_M_curve_13 : decode kb_M_curve 13 = .ok (.bipush 6, 2) := by decide +kernel
theorem kd_M_curve_15 : decode kb_M_curve 15 = .ok (.invokestatic 69, 3) := by decide +kernel
theorem kd_M_curve_18 : decode kb_M_curve 18 = .ok (.ifCond .ne 7, 3) := by decide +kernel
theorem kd_M_curve_21 : decode kb_M_curve 21 = .ok (.iconst 1, 1) := by decide +kernel
theorem kd_M_curve_22 : decode kb_M_curve 22 = .ok (.goto 4, 3) := by decide +kernel
theorem kd_M_curve_25 : decode kb_M_curve 25 = .ok (.iconst 0, 1) := by decide +kernel
theorem kd_M_curve_26 : decode kb_M_curve 26 = .ok (.iconst 0, 1) := by decide +kernel
theorem kd_M_curve_27 : decode kb_M_curve 27 = .ok (.iconst 0, 1) := by decide +kernel
theorem kd_M_curve_28 : decode kb_M_curve 28 = .ok (.invokevirtual 73, 3) := by decide +kernel
theorem kd_M_curve_31 : decode kb_M_curve 31 = .ok (.ifCond .eq 5, 3) := by decide +kernel
theorem kd_M_curve_34 : decode kb_M_curve 34 = .ok (.iconst 0, 1) := by decide +kernel
theorem kd_M_curve_35 : decode kb_M_curve 35 = .ok (.ireturn, 1) := by decide +kernel
theorem kd_M_curve_36 : decode kb_M_curve 36 = .ok (.aload_n 0, 1) := by decide +kernel
theorem kd_M_curve_37 : decode kb_M_curve 37 = .ok (.iconst 0, 1) := by decide +kernel
theorem kd_M_curve_38 : decode kb_M_curve 38 = .ok (.putfield 111, 3) := by decide +kernel
theorem kd_M_curve_41 : decode kb_M_curve 41 = .ok (.iconst 0, 1) := by decide +kernel
theorem kd_M_curve_42 : decode kb_M_curve 42 = .ok (.istore_n 3, 1) := by decide +kernel
theorem kd_M_curve_43 : decode kb_M_curve 43 = .ok (.iconst 0, 1) := by decide +kernel
theorem kd_M_curve_44 : decode kb_M_curve 44 = .ok (.istore 4, 2) := by decide +kernel
theorem kd_M_curve_46 : decode kb_M_curve 46 = .ok (.iload 4, 2) := by decide +kernel
theorem kd_M_curve_48 : decode kb_M_curve 48 = .ok (.aload_n 0, 1) := by decide +kernel
theorem kd_M_curve_49 : decode kb_M_curve 49 = .ok (.getfield 92, 3) := by decide +kernel
theorem kd_M_curve_52 : decode kb_M_curve 52 = .ok (.if_icmp .ge 36, 3) := by decide +kernel
theorem kd_M_curve_55 : decode kb_M_curve 55 = .ok (.aload_n 0, 1) := by decide +kernel
theorem kd_M_curve_56 : decode kb_M_curve 56 = .ok (.aload_n 0, 1) := by decide +kernel
theorem kd_M_curve_57 : decode kb_M_curve 57 = .ok (.getfield 7, 3) := by decide +kernel
theorem kd_M_curve_60 : decode kb_M_curve 60 = .ok (.iload 4, 2) := by decide +kernel
theorem kd_M_curve_62 : decode kb_M_curve 62 = .ok (.iaload, 1) := by decide +kernel
theorem kd_M_curve_63 : decode kb_M_curve 63 = .ok (.iload_n 2, 1) := by decide +kernel
theorem kd_M_curve_64 : decode kb_M_curve 64 = .ok (.ishr, 1) := by decide +kernel
theorem kd_M_curve_65 : decode kb_M_curve 65 = .ok (.iload_n 1, 1) := by decide +kernel
theorem kd_M_curve_66 : decode kb_M_curve 66 = .ok (.iload 4, 2) := by decide +kernel
theorem kd_M_curve_68 : decode kb_M_curve 68 = .ok (.invokevirtual 114, 3) := by decide +kernel
theorem kd_M_curve_71 : decode kb_M_curve 71 = .ok (.ifCond .eq 9, 3) := by decide +kernel
theorem kd_M_curve_74 : decode kb_M_curve 74 = .ok (.iload_n 3, 1) := by decide +kernel
theorem kd_M_curve_75 : decode kb_M_curve 75 = .ok (.iconst 1, 1) := by decide +kernel
theorem kd_M_curve_76 : decode kb_M_curve 76 = .ok (.iadd, 1) := by decide +kernel
theorem kd_M_curve_77 : decode kb_M_curve 77 = .ok (.goto 4, 3) := by decide +kernel
theorem kd_M_curve_80 : decode kb_M_curve 80 = .ok (.iload_n 3, 1) := by decide +kernel
theorem kd_M_curve_81 : decode kb_M_curve 81 = .ok (.istore_n 3, 1) := by decide +kernel
theorem kd_M_curve_82 : decode kb_M_curve 82 = .ok (.iinc 4 1, 3) := by decide +kernel
theorem kd_M_curve_85 : decode kb_M_curve 85 = .ok (.goto (-39), 3) := by decide +kernel
theorem kd_M_curve_88 : decode kb_M_curve 88 = .ok (.iload_n 3, 1) := by decide +kernel
theorem kd_M_curve_89 : decode kb_M_curve 89 = .ok (.ireturn, 1) := by decide +kernel
theorem kd_M_comes_0 : decode kb_M_comes 0 = .ok (.iconst (-1), 1) := by decide +kernel
theorem kd_M_comes_1 : decode kb_M_comes 1 = .ok (.istore 4, 2) := by decide +kernel
theorem kd_M_comes_3 : decode kb_M_comes 3 = .ok (.iconst 0, 1) := by decide +kernel
theorem kd_M_comes_4 : decode kb_M_comes 4 = .ok (.istore 5, 2) := by decide +kernel
theorem kd_M_comes_6 : decode kb_M_comes 6 = .ok (.iconst 0, 1) := by decide +kernel
theorem kd_M_comes_7 : decode kb_M_comes 7 = .ok (.istore 6, 2) := by decide +kernel
theorem kd_M_comes_9 : decode kb_M_comes 9 = .ok (.iload 6, 2) := by decide +kernel
theorem kd_M_comes_11 : decode kb_M_comes 11 = .ok (.aload_n 0, 1) := by decide +kernel
theorem kd_M_comes_12 : decode kb_M_comes 12 = .ok (.getfield 111, 3) := by decide +kernel
theorem kd_M_comes_15 : decode kb_M_comes 15 = .ok (.if_icmp .ge 55, 3) := by decide +kernel
theorem kd_M_comes_18 : decode kb_M_comes 18 = .ok (.aload_n 0, 1) := by decide +kernel
theorem kd_M_comes_19 : decode kb_M_comes 19 = .ok (.getfield 56, 3) := by decide +kernel
theorem kd_M_comes_22 : decode kb_M_comes 22 = .ok (.iload 6, 2) := by decide +kernel
theorem kd_M_comes_24 : decode kb_M_comes 24 = .ok (.iaload, 1) := by decide +kernel
theorem kd_M_comes_25 : decode kb_M_comes 25 = .ok (.iload_n 1, 1) := by decide +kernel
theorem kd_M_comes_26 : decode kb_M_comes 26 = .ok (.if_icmp .ne 8, 3) := by decide +kernel
theorem kd_M_comes_29 : decode kb_M_comes 29 = .ok (.iload 6, 2) := by decide +kernel
theorem kd_M_comes_31 : decode kb_M_comes 31 = .ok (.goto 5, 3) := by decide +kernel
theorem kd_M_comes_34 : decode kb_M_comes 34 = .ok (.iload 4, 2) := by decide +kernel
theorem kd_M_comes_36 : decode kb_M_comes 36 = .ok (.istore 4, 2) := by decide +kernel
theorem kd_M_comes_38 : decode kb_M_comes 38 = .ok (.aload_n 0, 1) := by decide +kernel
theorem kd_M_comes_39 : decode kb_M_comes 39 = .ok (.getfield 59, 3) := by decide +kernel
theorem kd_M_comes_42 : decode kb_M_comes 42 = .ok (.iload 6, 2) := by decide +kernel
theorem kd_M_comes_44 : decode kb_M_comes 44 = .ok (.iaload, 1) := by decide +kernel
theorem kd_M_comes_45 : decode kb_M_comes 45 = .ok (.aload_n 0, 1) := by decide +kernel
theorem kd_M_comes_46 : decode kb_M_comes 46 = .ok (.getfield 59, 3) := by decide +kernel
theorem kd_M_comes_49 : decode kb_M_comes 49 = .ok (.iload 5, 2) := by decide +kernel
theorem kd_M_comes_51 : decode kb_M_comes 51 = .ok (.iaload, 1) := by decide +kernel
theorem kd_M_comes_52 : decode kb_M_comes 52 = .ok (.if_icmp .ge 8, 3) := by decide +kernel
theorem kd_M_comes_55 : decode kb_M_comes 55 = .ok (.iload 6, 2) := by decide +kernel
theorem kd_M_comes_57 : decode kb_M_comes 57 = .ok (.goto 5, 3) := by decide +kernel
theorem kd_M_comes_60 : decode kb_M_comes 60 = .ok (.iload 5, 2) := by decide +kernel
theorem kd_M_comes_62 : decode kb_M_comes 62 = .ok (.istore 5, 2) := by decide +kernel
theorem kd_M_comes_64 : decode kb_M_comes 64 = .ok (.iinc 6 1, 3) := by decide +kernel
theorem kd_M_comes_67 : decode kb_M_comes 67 = .ok (.goto (-58), 3) := by decide +kernel
theorem kd_M_comes_70 : decode kb_M_comes 70 = .ok (.iload 4, 2) := by decide +kernel
theorem kd_M_comes_72 : decode kb_M_comes 72 = .ok (.ifCond .lt 7, 3) := by decide +kernel
theorem kd_M_comes_75 : decode kb_M_comes 75 = .ok (.iconst 1, 1) := by decide +kernel
theorem kd_M_comes_76 : decode kb_M_comes 76 = .ok (.goto 4, 3) := by decide +kernel
theorem kd_M_comes_79 : decode kb_M_comes 79 = .ok (.iconst 0, 1) := by decide +kernel
theorem kd_M_comes_80 : decode kb_M_comes 80 = .ok (.istore 6, 2) := by decide +kernel
theorem kd_M_comes_82 : decode kb_M_comes 82 = .ok (.iload 6, 2) := by decide +kernel
theorem kd_M_comes_84 : decode kb_M_comes 84 = .ok (.ifCond .ne 30, 3) := by decide +kernel
theorem kd_M_comes_87 : decode kb_M_comes 87 = .ok (.aload_n 0, 1) := by decide +kernel
theorem kd_M_comes_88 : decode kb_M_comes 88 = .ok (.getfield 111, 3) := by decide +kernel
theorem kd_M_comes_91 : decode kb_M_comes 91 = .ok (.iload_n 2, 1) := by decide +kernel
theorem kd_M_comes_92 : decode kb_M_comes 92 = .ok (.if_icmp .ge 22, 3) := by decide +kernel
theorem kd_M_comes_95 : decode kb_M_comes 95 = .ok (.aload_n 0, 1) := by decide +kernel
theorem kd_M_comes_96 : decode kb_M_comes 96 = .ok (.getfield 111, 3) := by decide +kernel
theorem kd_M_comes_99 : decode kb_M_comes 99 = .ok (.istore 4, 2) := by decide +kernel
theorem kd_M_comes_101 : decode kb_M_comes 101 = .ok (.aload_n 0, 1) := by decide +kernel
theorem kd_M_comes_102 : decode kb_M_comes 102 = .ok (.dup, 1) := by decide +kernel
theorem kd_M_comes_103 : decode kb_M_comes 103 = .ok (.getfield 111, 3) := by decide +kernel
theorem kd_M_comes_106 : decode kb_M_comes 106 = .ok (.iconst 1, 1) := by decide +kernel
theorem kd_M_comes_107 : decode kb_M_comes 107 = .ok (.iadd, 1) := by decide +kernel
theorem kd_M_comes_108 : decode kb_M_comes 108 = .ok (.putfield 111, 3) := by decide +kernel
theorem kd_M_comes_111 : decode kb_M_comes 111 = .ok (.goto 12, 3) := by decide +kernel
theorem kd_M_comes_114 : decode kb_M_comes 114 = .ok (.iload 6, 2) := by decide +kernel
theorem kd_M_comes_116 : decode kb_M_comes 116 = .ok (.ifCond .ne 7, 3) := by decide +kernel
theorem kd_M_comes_119 : decode kb_M_comes 119 = .ok (.iload 5, 2) := by decide +kernel
theorem kd_M_comes_121 : decode kb_M_comes 121 = .ok (.istore 4, 2) := by decide +kernel
theorem kd_M_comes_123 : decode kb_M_comes 123 = .ok (.aload_n 0, 1) := by decide +kernel
theorem kd_M_comes_124 : decode kb_M_comes 124 = .ok (.getfield 56, 3) := by decide +kernel
theorem kd_M_comes_127 : decode kb_M_comes 127 = .ok (.iload 4, 2) := by decide +kernel
theorem kd_M_comes_129 : decode kb_M_comes 129 = .ok (.iload_n 1, 1) := by decide +kernel
theorem kd_M_comes_130 : decode kb_M_comes 130 = .ok (.iastore, 1) := by decide +kernel
theorem kd_M_comes_131 : decode kb_M_comes 131 = .ok (.aload_n 0, 1) := by decide +kernel
theorem kd_M_comes_132 : decode kb_M_comes 132 = .ok (.getfield 59, 3) := by decide +kernel
theorem kd_M_comes_135 : decode kb_M_comes 135 = .ok (.iload 4, 2) := by decide +kernel
theorem kd_M_comes_137 : decode kb_M_comes 137 = .ok (.iload_n 3, 1) := by decide +kernel
theorem kd_M_comes_138 : decode kb_M_comes 138 = .ok (.iastore, 1) := by decide +kernel
theorem kd_M_comes_139 : decode kb_M_comes 139 = .ok (.iload 6, 2) := by decide +kernel
theorem kd_M_comes_141 : decode kb_M_comes 141 = .ok (.ireturn, 1) := by decide +kernel
theorem kd_M_best_0 : decode kb_M_best 0 = .ok (.aload_n 0, 1) := by decide +kernel
theorem kd_M_best_1 : decode kb_M_best 1 = .ok (.iload_n 1, 1) := by decide +kernel
theorem kd_M_best_2 : decode kb_M_best 2 = .ok (.iconst 1, 1) := by decide +kernel
theorem kd_M_best_3 : decode kb_M_best 3 = .ok (.bipush 64, 2) := by decide +kernel
theorem kd_M_best_5 : decode kb_M_best 5 = .ok (.invokestatic 69, 3) := by decide +kernel
theorem kd_M_best_8 : decode kb_M_best 8 = .ok (.ifCond .eq 13, 3) := by decide +kernel
theorem kd_M_best_11 : decode kb_M_best 11 = .ok (.iload_n 2, 1) := by decide +kernel
theorem kd_M_best_12 : decode kb_M_best 12 = .ok (.iconst 0, 1) := by decide +kernel
theorem kd_M_best_13 : decode kb_M_best 13 = .ok (.bipush 6, 2) := by decide +kernel
theorem kd_M_best_15 : decode kb_M_best 15 = .ok (.invokestatic 69, 3) := by decide +kernel
theorem kd_M_best_18 : decode kb_M_best 18 = .ok (.ifCond .ne 7, 3) := by decide +kernel
theorem kd_M_best_21 : decode kb_M_best 21 = .ok (.iconst 1, 1) := by decide +kernel
theorem kd_M_best_22 : decode kb_M_best 22 = .ok (.goto 4, 3) := by decide +kernel
theorem kd_M_best_25 : decode kb_M_best 25 = .ok (.iconst 0, 1) := by decide +kernel
theorem kd_M_best_26 : decode kb_M_best 26 = .ok (.iconst 0, 1) := by decide +kernel
theorem kd_M_best_27 : decode kb_M_best 27 = .ok (.iconst 0, 1) := by decide +kernel
theorem kd_M_best_28 : decode kb_M_best 28 = .ok (.invokevirtual 73, 3) := by decide +kernel
theorem kd_M_best_31 : decode kb_M_best 31 = .ok (.ifCond .eq 5, 3) := by decide +kernel
theorem kd_M_best_34 : decode kb_M_best 34 = .ok (.iconst 0, 1) := by decide +kernel
theorem kd_M_best_35 : decode kb_M_best 35 = .ok (.ireturn, 1) := by decide +kernel
theorem kd_M_best_36 : decode kb_M_best 36 = .ok (.aload_n 0, 1) := by decide +kernel
theorem kd_M_best_37 : decode kb_M_best 37 = .ok (.iconst 0, 1) := by decide +kernel
theorem kd_M_best_38 : decode kb_M_best 38 = .ok (.putfield 117, 3) := by decide +kernel
theorem kd_M_best_41 : decode kb_M_best 41 = .ok (.iconst 0, 1) := by decide +kernel
theorem kd_M_best_42 : decode kb_M_best 42 = .ok (.istore_n 3, 1) := by decide +kernel
theorem kd_M_best_43 : decode kb_M_best 43 = .ok (.iconst 0, 1) := by decide +kernel
theorem kd_M_best_44 : decode kb_M_best 44 = .ok (.istore 4, 2) := by decide +kernel
theorem kd_M_best_46 : decode kb_M_best 46 = .ok (.iload 4, 2) := by decide +kernel
theorem kd_M_best_48 : decode kb_M_best 48 = .ok (.aload_n 0, 1) := by decide +kernel
theorem kd_M_best_49 : decode kb_M_best 49 = .ok (.getfield 92, 3) := by decide +kernel
theorem kd_M_best_52 : decode kb_M_best 52 = .ok (.if_icmp .ge 176, 3) := by decide +kernel
theorem kd_M_best_55 : decode kb_M_best 55 = .ok (.iload 4, 2) := by decide +kernel
theorem kd_M_best_57 : decode kb_M_best 57 = .ok (.ifCond .le 15, 3) := by decide +kernel
theorem kd_M_best_60 : decode kb_M_best 60 = .ok (.aload_n 0, 1) := by decide +kernel
theorem kd_M_best_61 : decode kb_M_best 61 = .ok (.iload 4, 2) := by decide +kernel
theorem kd_M_best_63 : decode kb_M_best 63 = .ok (.iconst 1, 1) := by decide +kernel
theorem kd_M_best_64 : decode kb_M_best 64 = .ok (.isub, 1) := by decide +kernel
theorem kd_M_best_65 : decode kb_M_best 65 = .ok (.iload_n 2, 1) := by decide +kernel
theorem kd_M_best_66 : decode kb_M_best 66 = .ok (.invokevirtual 120, 3) := by decide +kernel
theorem kd_M_best_69 : decode kb_M_best 69 = .ok (.goto 4, 3) := by decide +kernel
theorem kd_M_best_72 : decode kb_M_best 72 = .ok (.iconst (-1), 1) := by decide +kernel
theorem kd_M_best_73 : decode kb_M_best 73 = .ok (.istore 5, 2) := by decide +kernel
theorem kd_M_best_75 : decode kb_M_best 75 = .ok (.iload 5, 2) := by decide +kernel
theorem kd_M_best_77 : decode kb_M_best 77 = .ok (.ifCond .lt 24, 3) := by decide +kernel
theorem kd_M_best_80 : decode kb_M_best 80 = .ok (.aload_n 0, 1) := by decide +kernel
theorem kd_M_best_81 : decode kb_M_best 81 = .ok (.getfield 62, 3) := by decide +kernel
theorem kd_M_best_84 : decode kb_M_best 84 = .ok (.aload_n 0, 1) := by decide +kernel
theorem kd_M_best_85 : decode kb_M_best 85 = .ok (.getfield 117, 3) := by decide +kernel
theorem kd_M_best_88 : decode kb_M_best 88 = .ok (.iload 5, 2) := by decide +kernel
theorem kd_M_best_90 : decode kb_M_best 90 = .ok (.iastore, 1) := by decide +kernel
theorem kd_M_best_91 : decode kb_M_best 91 = .ok (.aload_n 0, 1) := by decide +kernel
theorem kd_M_best_92 : decode kb_M_best 92 = .ok (.dup, 1) := by decide +kernel
theorem kd_M_best_93 : decode kb_M_best 93 = .ok (.getfield 117, 3) := by decide +kernel
theorem kd_M_best_96 : decode kb_M_best 96 = .ok (.iconst 1, 1) := by decide +kernel
theorem kd_M_best_97 : decode kb_M_best 97 = .ok (.iadd, 1) := by decide +kernel
theorem kd_M_best_98 : decode kb_M_best 98 = .ok (.putfield 117, 3) := by decide +kernel
theorem kd_M_best_101 : decode kb_M_best 101 = .ok (.iconst 0, 1) := by decide +kernel
theorem kd_M_best_102 : decode kb_M_best 102 = .ok (.istore 6, 2) := by decide +kernel
theorem kd_M_best_104 : decode kb_M_best 104 = .ok (.iconst (-1), 1) := by decide +kernel
theorem kd_M_best_105 : decode kb_M_best 105 = .ok (.istore 7, 2) := by decide +kernel
theorem kd_M_best_107 : decode kb_M_best 107 = .ok (.iconst 0, 1) := by decide +kernel
theorem kd_M_best_108 : decode kb_M_best 108 = .ok (.istore 8, 2) := by decide +kernel
theorem kd_M_best_110 : decode kb_M_best 110 = .ok (.iload 8, 2) := by decide +kernel
theorem kd_M_best_112 : decode kb_M_best 112 = .ok (.aload_n 0, 1) := by decide +kernel
theorem kd_M_best_113 : decode kb_M_best 113 = .ok (.getfield 117, 3) := by decide +kernel
theorem kd_M_best_116 : decode kb_M_best 116 = .ok (.if_icmp .ge 75, 3) := by decide +kernel
theorem kd_M_best_119 : decode kb_M_best 119 = .ok (.aload_n 0, 1) := by decide +kernel
theorem kd_M_best_120 : decode kb_M_best 120 = .ok (.getfield 62, 3) := by decide +kernel
theorem kd_M_best_123 : decode kb_M_best 123 = .ok (.iload 8, 2) := by decide +kernel
theorem kd_M_best_125 : decode kb_M_best 125 = .ok (.iaload, 1) := by decide +kernel
theorem kd_M_best_126 : decode kb_M_best 126 = .ok (.iload 4, 2) := by decide +kernel
theorem kd_M_best_128 : decode kb_M_best 128 = .ok (.if_icmp .ne 9, 3) := by decide +kernel
theorem kd_M_best_131 : decode kb_M_best 131 = .ok (.iinc 3 1, 3) := by decide +kernel
theorem kd_M_best_134 : decode kb_M_best 134 = .ok (.goto 51, 3) := by decide +kernel
theorem kd_M_best_137 : decode kb_M_best 137 = .ok (.aload_n 0, 1) := by decide +kernel
theorem kd_M_best_138 : decode kb_M_best 138 = .ok (.getfield 62, 3) := by decide +kernel
theorem kd_M_best_141 : decode kb_M_best 141 = .ok (.iload 6, 2) := by decide +kernel
theorem kd_M_best_143 : decode kb_M_best 143 = .ok (.aload_n 0, 1) := by decide +kernel
theorem kd_M_best_144 : decode kb_M_best 144 = .ok (.getfield 62, 3) := by decide +kernel
theorem kd_M_best_147 : decode kb_M_best 147 = .ok (.iload 8, 2) := by decide +kernel
theorem kd_M_best_149 : decode kb_M_best 149 = .ok (.iaload, 1) := by decide +kernel
theorem kd_M_best_150 : decode kb_M_best 150 = .ok (.iastore, 1) := by decide +kernel
theorem kd_M_best_151 : decode kb_M_best 151 = .ok (.iload 7, 2) := by decide +kernel
theorem kd_M_best_153 : decode kb_M_best 153 = .ok (.ifCond .lt 20, 3) := by decide +kernel
theorem kd_M_best_156 : decode kb_M_best 156 = .ok (.aload_n 0, 1) := by decide +kernel
theorem kd_M_best_157 : decode kb_M_best 157 = .ok (.getfield 62, 3) := by decide +kernel
theorem kd_M_best_160 : decode kb_M_best 160 = .ok (.iload 6, 2) := by decide +kernel
theorem kd_M_best_162 : decode kb_M_best 162 = .ok (.iaload, 1) := by decide +kernel
theorem kd_M_best_163 : decode kb_M_best 163 = .ok (.aload_n 0, 1) := by decide +kernel
theorem kd_M_best_164 : decode kb_M_best 164 = .ok (.getfield 62, 3) := by decide +kernel
theorem kd_M_best_167 : decode kb_M_best 167 = .ok (.iload 7, 2) := by decide +kernel
theorem kd_M_best_169 : decode kb_M_best 169 = .ok (.iaload, 1) := by decide +kernel
theorem kd_M_best_170 : decode kb_M_best 170 = .ok (.if_icmp .le 8, 3) := by decide +kernel
theorem kd_M_best_173 : decode kb_M_best 173 = .ok (.iload 6, 2) := by decide +kernel
theorem kd_M_best_175 : decode kb_M_best 175 = .ok (.goto 5, 3) := by decide +kernel
theorem kd_M_best_178 : decode kb_M_best 178 = .ok (.iload 7, 2) := by decide +kernel
theorem kd_M_best_180 : decode kb_M_best 180 = .ok (.istore 7, 2) := by decide +kernel
theorem kd_M_best_182 : decode kb_M_best 182 = .ok (.iinc 6 1, 3) := by decide +kernel
theorem kd_M_best_185 : decode kb_M_best 185 = .ok (.iinc 8 1, 3) := by decide +kernel
theorem kd_M_best_188 : decode kb_M_best 188 = .ok (.goto (-78), 3) := by decide +kernel
theorem kd_M_best_191 : decode kb_M_best 191 = .ok (.iload 6, 2) := by decide +kernel
theorem kd_M_best_193 : decode kb_M_best 193 = .ok (.iload_n 1, 1) := by decide +kernel
theorem kd_M_best_194 : decode kb_M_best 194 = .ok (.iconst 1, 1) := by decide +kernel
theorem kd_M_best_195 : decode kb_M_best 195 = .ok (.isub, 1) := by decide +kernel
theorem kd_M_best_196 : decode kb_M_best 196 = .ok (.if_icmp .le 20, 3) := by decide +kernel
theorem kd_M_best_199 : decode kb_M_best 199 = .ok (.iinc 6 (-1), 3) := by decide +kernel
theorem kd_M_best_202 : decode kb_M_best 202 = .ok (.aload_n 0, 1) := by decide +kernel
theorem kd_M_best_203 : decode kb_M_best 203 = .ok (.getfield 62, 3) := by decide +kernel
theorem kd_M_best_206 : decode kb_M_best 206 = .ok (.iload 7, 2) := by decide +kernel
theorem kd_M_best_208 : decode kb_M_best 208 = .ok (.aload_n 0, 1) := by decide +kernel
theorem kd_M_best_209 : decode kb_M_best 209 = .ok (.getfield 62, 3) := by decide +kernel
theorem kd_M_best_212 : decode kb_M_best 212 = .ok (.iload 6, 2) := by decide +kernel
theorem kd_M_best_214 : decode kb_M_best 214 = .ok (.iaload, 1) := by decide +kernel
theorem kd_M_best_215 : decode kb_M_best 215 = .ok (.iastore, 1) := by decide +kernel
theorem kd_M_best_216 : decode kb_M_best 216 = .ok (.aload_n 0, 1) := by decide +kernel
theorem kd_M_best_217 : decode kb_M_best 217 = .ok (.iload 6, 2) := by decide +kernel
theorem kd_M_best_219 : decode kb_M_best 219 = .ok (.putfield 117, 3) := by decide +kernel
theorem kd_M_best_222 : decode kb_M_best 222 = .ok (.iinc 4 1, 3) := by decide +kernel
theorem kd_M_best_225 : decode kb_M_best 225 = .ok (.goto (-179), 3) := by decide +kernel
theorem kd_M_best_228 : decode kb_M_best 228 = .ok (.iload_n 3, 1) := by decide +kernel
theorem kd_M_best_229 : decode kb_M_best 229 = .ok (.ireturn, 1) := by decide +kernel
theorem kd_M_nextOf_0 : decode kb_M_nextOf 0 = .ok (.iload_n 1, 1) := by decide +kernel
theorem kd_M_nextOf_1 : decode kb_M_nextOf 1 = .ok (.iconst 1, 1) := by decide +kernel
theorem kd_M_nextOf_2 : decode kb_M_nextOf 2 = .ok (.iadd, 1) := by decide +kernel
theorem kd_M_nextOf_3 : decode kb_M_nextOf 3 = .ok (.istore_n 3, 1) := by decide +kernel
theorem kd_M_nextOf_4 : decode kb_M_nextOf 4 = .ok (.iload_n 3, 1) := by decide +kernel
theorem kd_M_nextOf_5 : decode kb_M_nextOf 5 = .ok (.aload_n 0, 1) := by decide +kernel
theorem kd_M_nextOf_6 : decode kb_M_nextOf 6 = .ok (.getfield 92, 3) := by decide +kernel
theorem kd_M_nextOf_9 : decode kb_M_nextOf 9 = .ok (.if_icmp .ge 28, 3) := by decide +kernel
theorem kd_M_nextOf_12 : decode kb_M_nextOf 12 = .ok (.aload_n 0, 1) := by decide +kernel
theorem kd_M_nextOf_13 : decode kb_M_nextOf 13 = .ok (.getfield 7, 3) := by decide +kernel
theorem kd_M_nextOf_16 : decode kb_M_nextOf 16 = .ok (.iload_n 3, 1) := by decide +kernel
theorem kd_M_nextOf_17 : decode kb_M_nextOf 17 = .ok (.iaload, 1) := by decide +kernel
theorem kd_M_nextOf_18 : decode kb_M_nextOf 18 = .ok (.iload_n 2, 1) := by decide +kernel
theorem kd_M_nextOf_19 : decode kb_M_nextOf 19 = .ok (.ishr, 1) := by decide +kernel
theorem kd_M_nextOf_20 : decode kb_M_nextOf 20 = .ok (.aload_n 0, 1) := by decide +kernel
theorem kd_M_nextOf_21 : decode kb_M_nextOf 21 = .ok (.getfield 7, 3) := by decide +kernel
theorem kd_M_nextOf_24 : decode kb_M_nextOf 24 = .ok (.iload_n 1, 1) := by decide +kernel
theorem kd_M_nextOf_25 : decode kb_M_nextOf 25 = .ok (.iaload, 1) := by decide +kernel
theorem kd_M_nextOf_26 : decode kb_M_nextOf 26 = .ok (.iload_n 2, 1) := by decide +kernel
theorem kd_M_nextOf_27 : decode kb_M_nextOf 27 = .ok (.ishr, 1) := by decide +kernel
theorem kd_M_nextOf_28 : decode kb_M_nextOf 28 = .ok (.if_icmp .eq 9, 3) := by decide +kernel
theorem kd_M_nextOf_31 : decode kb_M_nextOf 31 = .ok (.iinc 3 1, 3) := by decide +kernel
theorem kd_M_nextOf_34 : decode kb_M_nextOf 34 = .ok (.goto (-30), 3) := by decide +kernel
theorem kd_M_nextOf_37 : decode kb_M_nextOf 37 = .ok (.iload_n 3, 1) := by decide +kernel
theorem kd_M_nextOf_38 : decode kb_M_nextOf 38 = .ok (.aload_n 0, 1) := by decide +kernel
theorem kd_M_nextOf_39 : decode kb_M_nextOf 39 = .ok (.getfield 92, 3) := by decide +kernel
theorem kd_M_nextOf_42 : decode kb_M_nextOf 42 = .ok (.if_icmp .ge 7, 3) := by decide +kernel
theorem kd_M_nextOf_45 : decode kb_M_nextOf 45 = .ok (.iload_n 3, 1) := by decide +kernel
theorem kd_M_nextOf_46 : decode kb_M_nextOf 46 = .ok (.goto 4, 3) := by decide +kernel
theorem kd_M_nextOf_49 : decode kb_M_nextOf 49 = .ok (.iconst (-1), 1) := by decide +kernel
theorem kd_M_nextOf_50 : decode kb_M_nextOf 50 = .ok (.ireturn, 1) := by decide +kernel
theorem kd_L_law_0 : decode kb_L_law 0 = .ok (.new 8, 3) := by decide +kernel
theorem kd_L_law_3 : decode kb_L_law 3 = .ok (.dup, 1) := by decide +kernel
theorem kd_L_law_4 : decode kb_L_law 4 = .ok (.invokespecial 43, 3) := by decide +kernel
theorem kd_L_law_7 : decode kb_L_law 7 = .ok (.astore_n 1, 1) := by decide +kernel
theorem kd_L_law_8 : decode kb_L_law 8 = .ok (.new 44, 3) := by decide +kernel
theorem kd_L_law_11 : decode kb_L_law 11 = .ok (.dup, 1) := by decide +kernel
theorem kd_L_law_12 : decode kb_L_law 12 = .ok (.invokespecial 46, 3) := by decide +kernel
theorem kd_L_law_15 : decode kb_L_law 15 = .ok (.astore_n 2, 1) := by decide +kernel
theorem kd_L_law_16 : decode kb_L_law 16 = .ok (.iconst 1, 1) := by decide +kernel
theorem kd_L_law_17 : decode kb_L_law 17 = .ok (.newarray .long, 2) := by decide +kernel
theorem kd_L_law_19 : decode kb_L_law 19 = .ok (.astore_n 3, 1) := by decide +kernel
theorem kd_L_law_20 : decode kb_L_law 20 = .ok (.iconst 0, 1) := by decide +kernel
theorem kd_L_law_21 : decode kb_L_law 21 = .ok (.istore 4, 2) := by decide +kernel
theorem kd_L_law_23 : decode kb_L_law 23 = .ok (.iload 4, 2) := by decide +kernel
theorem kd_L_law_25 : decode kb_L_law 25 = .ok (.aload_n 0, 1) := by decide +kernel
theorem kd_L_law_26 : decode kb_L_law 26 = .ok (.arraylength, 1) := by decide +kernel
theorem kd_L_law_27 : decode kb_L_law 27 = .ok (.bipush 6, 2) := by decide +kernel
theorem kd_L_law_29 : decode kb_L_law 29 = .ok (.isub, 1) := by decide +kernel
theorem kd_L_law_30 : decode kb_L_law 30 = .ok (.if_icmp .gt 597, 3) := by decide +kernel
theorem kd_L_law_33 : decode kb_L_law 33 = .ok (.aload_n 0, 1) := by decide +kernel
theorem kd_L_law_34 : decode kb_L_law 34 = .ok (.iload 4, 2) := by decide +kernel
theorem kd_L_law_36 : decode kb_L_law 36 = .ok (.iaload, 1) := by decide +kernel
theorem kd_L_law_37 : decode kb_L_law 37 = .ok (.bipush 7, 2) := by decide +kernel
theorem kd_L_law_39 : decode kb_L_law 39 = .ok (.iand, 1) := by decide +kernel
theorem kd_L_law_40 : decode kb_L_law 40 = .ok (.tableswitch 581 0 7 #[48, 132, 216, 272, 364, 432, 445, 513], 48) := by decide +kernel
theorem kd_L_law_88 : decode kb_L_law 88 = .ok (.aload_n 1, 1) := by decide +kernel
theorem kd_L_law_89 : decode kb_L_law 89 = .ok (.aload_n 0, 1) := by decide +kernel
theorem kd_L_law_90 : decode kb_L_law 90 = .ok (.iload 4, 2) := by decide +kernel
theorem kd_L_law_92 : decode kb_L_law 92 = .ok (.iconst 1, 1) := by decide +kernel
theorem kd_L_law_93 : decode kb_L_law 93 = .ok (.iadd, 1) := by decide +kernel
theorem kd_L_law_94 : decode kb_L_law 94 = .ok (.iaload, 1) := by decide +kernel
theorem kd_L_law_95 : decode kb_L_law 95 = .ok (.aload_n 0, 1) := by decide +kernel
theorem kd_L_law_96 : decode kb_L_law 96 = .ok (.iload 4, 2) := by decide +kernel
theorem kd_L_law_98 : decode kb_L_law 98 = .ok (.iconst 2, 1) := by decide +kernel
theorem kd_L_law_99 : decode kb_L_law 99 = .ok (.iadd, 1) := by decide +kernel
theorem kd_L_law_100 : decode kb_L_law 100 = .ok (.iaload, 1) := by decide +kernel
theorem kd_L_law_101 : decode kb_L_law 101 = .ok (.aload_n 0, 1) := by decide +kernel
theorem kd_L_law_102 : decode kb_L_law 102 = .ok (.iload 4, 2) := by decide +kernel
theorem kd_L_law_104 : decode kb_L_law 104 = .ok (.iconst 3, 1) := by decide +kernel
theorem kd_L_law_105 : decode kb_L_law 105 = .ok (.iadd, 1) := by decide +kernel
theorem kd_L_law_106 : decode kb_L_law 106 = .ok (.iaload, 1) := by decide +kernel
theorem kd_L_law_107 : decode kb_L_law 107 = .ok (.aload_n 0, 1) := by decide +kernel
theorem kd_L_law_108 : decode kb_L_law 108 = .ok (.iload 4, 2) := by decide +kernel
theorem kd_L_law_110 : decode kb_L_law 110 = .ok (.iconst 4, 1) := by decide +kernel
theorem kd_L_law_111 : decode kb_L_law 111 = .ok (.iadd, 1) := by decide +kernel
theorem kd_L_law_112 : decode kb_L_law 112 = .ok (.iaload, 1) := by decide +kernel
theorem kd_L_law_113 : decode kb_L_law 113 = .ok (.aload_n 0, 1) := by decide +kernel
theorem kd_L_law_114 : decode kb_L_law 114 = .ok (.iload 4, 2) := by decide +kernel
theorem kd_L_law_116 : decode kb_L_law 116 = .ok (.iconst 5, 1) := by decide +kernel
theorem kd_L_law_117 : decode kb_L_law 117 = .ok (.iadd, 1) := by decide +kernel
theorem kd_L_law_118 : decode kb_L_law 118 = .ok (.iaload, 1) := by decide +kernel
theorem kd_L_law_119 : decode kb_L_law 119 = .ok (.invokestatic 47, 3) := by decide +kernel
theorem kd_L_law_122 : decode kb_L_law 122 = .ok (.istore 5, 2) := by decide +kernel
theorem kd_L_law_124 : decode kb_L_law 124 = .ok (.aload_n 2, 1) := by decide +kernel
theorem kd_L_law_125 : decode kb_L_law 125 = .ok (.aload_n 0, 1) := by decide +kernel
theorem kd_L_law_126 : decode kb_L_law 126 = .ok (.iload 4, 2) := by decide +kernel
theorem kd_L_law_128 : decode kb_L_law 128 = .ok (.iconst 1, 1) := by decide +kernel
theorem kd_L_law_129 : decode kb_L_law 129 = .ok (.iadd, 1) := by decide +kernel
theorem kd_L_law_130 : decode kb_L_law 130 = .ok (.iaload, 1) := by decide +kernel
theorem kd_L_law_131 : decode kb_L_law 131 = .ok (.aload_n 0, 1) := by decide +kernel
theorem kd_L_law_132 : decode kb_L_law 132 = .ok (.iload 4, 2) := by decide +kernel
theorem kd_L_law_134 : decode kb_L_law 134 = .ok (.iconst 2, 1) := by decide +kernel
theorem kd_L_law_135 : decode kb_L_law 135 = .ok (.iadd, 1) := by decide +kernel
theorem kd_L_law_136 : decode kb_L_law 136 = .ok (.iaload, 1) := by decide +kernel
theorem kd_L_law_137 : decode kb_L_law 137 = .ok (.aload_n 0, 1) := by decide +kernel
theorem kd_L_law_138 : decode kb_L_law 138 = .ok (.iload 4, 2) := by decide +kernel
theorem kd_L_law_140 : decode kb_L_law 140 = .ok (.iconst 3, 1) := by decide +kernel
theorem kd_L_law_141 : decode kb_L_law 141 = .ok (.iadd, 1) := by decide +kernel
theorem kd_L_law_142 : decode kb_L_law 142 = .ok (.iaload, 1) := by decide +kernel
theorem kd_L_law_143 : decode kb_L_law 143 = .ok (.aload_n 0, 1) := by decide +kernel
theorem kd_L_law_144 : decode kb_L_law 144 = .ok (.iload 4, 2) := by decide +kernel
theorem kd_L_law_146 : decode kb_L_law 146 = .ok (.iconst 4, 1) := by decide +kernel
theorem kd_L_law_147 : decode kb_L_law 147 = .ok (.iadd, 1) := by decide +kernel
theorem kd_L_law_148 : decode kb_L_law 148 = .ok (.iaload, 1) := by decide +kernel
theorem kd_L_law_149 : decode kb_L_law 149 = .ok (.aload_n 0, 1) := by decide +kernel
theorem kd_L_law_150 : decode kb_L_law 150 = .ok (.iload 4, 2) := by decide +kernel
theorem kd_L_law_152 : decode kb_L_law 152 = .ok (.iconst 5, 1) := by decide +kernel
theorem kd_L_law_153 : decode kb_L_law 153 = .ok (.iadd, 1) := by decide +kernel
theorem kd_L_law_154 : decode kb_L_law 154 = .ok (.iaload, 1) := by decide +kernel
theorem kd_L_law_155 : decode kb_L_law 155 = .ok (.invokevirtual 52, 3) := by decide +kernel
theorem kd_L_law_158 : decode kb_L_law 158 = .ok (.aload_n 2, 1) := by decide +kernel
theorem kd_L_law_159 : decode kb_L_law 159 = .ok (.invokevirtual 53, 3) := by decide +kernel
theorem kd_L_law_162 : decode kb_L_law 162 = .ok (.iload 5, 2) := by decide +kernel
theorem kd_L_law_164 : decode kb_L_law 164 = .ok (.if_icmp .eq 5, 3) := by decide +kernel
theorem kd_L_law_167 : decode kb_L_law 167 = .ok (.iconst 0, 1) := by decide +kernel
theorem kd_L_law_168 : decode kb_L_law 168 = .ok (.ireturn, 1) := by decide +kernel
theorem kd_L_law_169 : decode kb_L_law 169 = .ok (.goto 452, 3) := by decide +kernel
theorem kd_L_law_172 : decode kb_L_law 172 = .ok (.aload_n 1, 1) := by decide +kernel
theorem kd_L_law_173 : decode kb_L_law 173 = .ok (.aload_n 0, 1) := by decide +kernel
theorem kd_L_law_174 : decode kb_L_law 174 = .ok (.iload 4, 2) := by decide +kernel
theorem kd_L_law_176 : decode kb_L_law 176 = .ok (.iconst 1, 1) := by decide +kernel
theorem kd_L_law_177 : decode kb_L_law 177 = .ok (.iadd, 1) := by decide +kernel
theorem kd_L_law_178 : decode kb_L_law 178 = .ok (.iaload, 1) := by decide +kernel
theorem kd_L_law_179 : decode kb_L_law 179 = .ok (.aload_n 0, 1) := by decide +kernel
theorem kd_L_law_180 : decode kb_L_law 180 = .ok (.iload 4, 2) := by decide +kernel
theorem kd_L_law_182 : decode kb_L_law 182 = .ok (.iconst 2, 1) := by decide +kernel
theorem kd_L_law_183 : decode kb_L_law 183 = .ok (.iadd, 1) := by decide +kernel
theorem kd_L_law_184 : decode kb_L_law 184 = .ok (.iaload, 1) := by decide +kernel
theorem kd_L_law_185 : decode kb_L_law 185 = .ok (.ifCond .eq 7, 3) := by decide +kernel
theorem kd_L_law_188 : decode kb_L_law 188 = .ok (.iconst 1, 1) := by decide +kernel
theorem kd_L_law_189 : decode kb_L_law 189 = .ok (.goto 4, 3) := by decide +kernel
theorem kd_L_law_192 : decode kb_L_law 192 = .ok (.iconst 0, 1) := by decide +kernel
theorem kd_L_law_193 : decode kb_L_law 193 = .ok (.aload_n 3, 1) := by decide +kernel
theorem kd_L_law_194 : decode kb_L_law 194 = .ok (.invokestatic 57, 3) := by decide +kernel
theorem kd_L_law_197 : decode kb_L_law 197 = .ok (.istore 5, 2) := by decide +kernel
theorem kd_L_law_199 : decode kb_L_law 199 = .ok (.aload_n 2, 1) := by decide +kernel
theorem kd_L_law_200 : decode kb_L_law 200 = .ok (.aload_n 0, 1) := by decide +kernel
theorem kd_L_law_201 : decode kb_L_law 201 = .ok (.iload 4, 2) := by decide +kernel
theorem kd_L_law_203 : decode kb_L_law 203 = .ok (.iconst 1, 1) := by decide +kernel
theorem kd_L_law_204 : decode kb_L_law 204 = .ok (.iadd, 1) := by decide +kernel
theorem kd_L_law_205 : decode kb_L_law 205 = .ok (.iaload, 1) := by decide +kernel
theorem kd_L_law_206 : decode kb_L_law 206 = .ok (.aload_n 0, 1) := by decide +kernel
theorem kd_L_law_207 : decode kb_L_law 207 = .ok (.iload 4, 2) := by decide +kernel
theorem kd_L_law_209 : decode kb_L_law 209 = .ok (.iconst 2, 1) := by decide +kernel
theorem kd_L_law_210 : decode kb_L_law 210 = .ok (.iadd, 1) := by decide +kernel
theorem kd_L_law_211 : decode kb_L_law 211 = .ok (.iaload, 1) := by decide +kernel
theorem kd_L_law_212 : decode kb_L_law 212 = .ok (.ifCond .eq 7, 3) := by decide +kernel
theorem kd_L_law_215 : decode kb_L_law 215 = .ok (.iconst 1, 1) := by decide +kernel
theorem kd_L_law_216 : decode kb_L_law 216 = .ok (.goto 4, 3) := by decide +kernel
theorem kd_L_law_219 : decode kb_L_law 219 = .ok (.iconst 0, 1) := by decide +kernel
theorem kd_L_law_220 : decode kb_L_law 220 = .ok (.invokevirtual 60, 3) := by decide +kernel
theorem kd_L_law_223 : decode kb_L_law 223 = .ok (.istore 6, 2) := by decide +kernel
theorem kd_L_law_225 : decode kb_L_law 225 = .ok (.aload_n 2, 1) := by decide +kernel
theorem kd_L_law_226 : decode kb_L_law 226 = .ok (.invokevirtual 53, 3) := by decide +kernel
theorem kd_L_law_229 : decode kb_L_law 229 = .ok (.iload 5, 2) := by decide +kernel
theorem kd_L_law_231 : decode kb_L_law 231 = .ok (.if_icmp .eq 5, 3) := by decide +kernel
theorem kd_L_law_234 : decode kb_L_law 234 = .ok (.iconst 0, 1) := by decide +kernel
theorem kd_L_law_235 : decode kb_L_law 235 = .ok (.ireturn, 1) := by decide +kernel
theorem kd_L_law_236 : decode kb_L_law 236 = .ok (.iload 5, 2) := by decide +kernel
theorem kd_L_law_238 : decode kb_L_law 238 = .ok (.ifCond .ne 15, 3) := by decide +kernel
theorem kd_L_law_241 : decode kb_L_law 241 = .ok (.aload_n 3, 1) := by decide +kernel
theorem kd_L_law_242 : decode kb_L_law 242 = .ok (.iconst 0, 1) := by decide +kernel
theorem kd_L_law_243 : decode kb_L_law 243 = .ok (.laload, 1) := by decide +kernel
theorem kd_L_law_244 : decode kb_L_law 244 = .ok (.iload 6, 2) := by decide +kernel
theorem kd_L_law_246 : decode kb_L_law 246 = .ok (.i2l, 1) := by decide +kernel
theorem kd_L_law_247 : decode kb_L_law 247 = .ok (.lcmp, 1) := by decide +kernel
theorem kd_L_law_248 : decode kb_L_law 248 = .ok (.ifCond .eq 5, 3) := by decide +kernel
theorem kd_L_law_251 : decode kb_L_law 251 = .ok (.iconst 0, 1) := by decide +kernel
theorem kd_L_law_252 : decode kb_L_law 252 = .ok (.ireturn, 1) := by decide +kernel
theorem kd_L_law_253 : decode kb_L_law 253 = .ok (.goto 368, 3) := by decide +kernel
theorem kd_L_law_256 : decode kb_L_law 256 = .ok (.aload_n 1, 1) := by decide +kernel
theorem kd_L_law_257 : decode kb_L_law 257 = .ok (.aload_n 0, 1) := by decide +kernel
theorem kd_L_law_258 : decode kb_L_law 258 = .ok (.iload 4, 2) := by decide +kernel
theorem kd_L_law_260 : decode kb_L_law 260 = .ok (.iconst 1, 1) := by decide +kernel
theorem kd_L_law_261 : decode kb_L_law 261 = .ok (.iadd, 1) := by decide +kernel
theorem kd_L_law_262 : decode kb_L_law 262 = .ok (.iaload, 1) := by decide +kernel
theorem kd_L_law_263 : decode kb_L_law 263 = .ok (.aload_n 3, 1) := by decide +kernel
theorem kd_L_law_264 : decode kb_L_law 264 = .ok (.invokestatic 61, 3) := by decide +kernel
theorem kd_L_law_267 : decode kb_L_law 267 = .ok (.istore 5, 2) := by decide +kernel
theorem kd_L_law_269 : decode kb_L_law 269 = .ok (.aload_n 2, 1) := by decide +kernel
theorem kd_L_law_270 : decode kb_L_law 270 = .ok (.aload_n 0, 1) := by decide +kernel
theorem kd_L_law_271 : decode kb_L_law 271 = .ok (.iload 4, 2) := by decide +kernel
theorem kd_L_law_273 : decode kb_L_law 273 = .ok (.iconst 1, 1) := by decide +kernel
theorem kd_L_law_274 : decode kb_L_law 274 = .ok (.iadd, 1) := by decide +kernel
theorem kd_L_law_275 : decode kb_L_law 275 = .ok (.iaload, 1) := by decide +kernel
theorem kd_L_law_276 : decode kb_L_law 276 = .ok (.invokevirtual 64, 3) := by decide +kernel
theorem kd_L_law_279 : decode kb_L_law 279 = .ok (.istore 6, 2) := by decide +kernel
theorem kd_L_law_281 : decode kb_L_law 281 = .ok (.aload_n 2, 1) := by decide +kernel
theorem kd_L_law_282 : decode kb_L_law 282 = .ok (.invokevirtual 53, 3) := by decide +kernel
theorem kd_L_law_285 : decode kb_L_law 285 = .ok (.iload 5, 2) := by decide +kernel
theorem kd_L_law_287 : decode kb_L_law 287 = .ok (.if_icmp .eq 5, 3) := by decide +kernel
theorem kd_L_law_290 : decode kb_L_law 290 = .ok (.iconst 0, 1) := by decide +kernel
theorem kd_L_law_291 : decode kb_L_law 291 = .ok (.ireturn, 1) := by decide +kernel
theorem kd_L_law_292 : decode kb_L_law 292 = .ok (.iload 5, 2) := by decide +kernel
theorem kd_L_law_294 : decode kb_L_law 294 = .ok (.ifCond .ne 15, 3) := by decide +kernel
theorem kd_L_law_297 : decode kb_L_law 297 = .ok (.aload_n 3, 1) := by decide +kernel
theorem kd_L_law_298 : decode kb_L_law 298 = .ok (.iconst 0, 1) := by decide +kernel
theorem kd_L_law_299 : decode kb_L_law 299 = .ok (.laload, 1) := by decide +kernel
theorem kd_L_law_300 : decode kb_L_law 300 = .ok (.iload 6, 2) := by decide +kernel
theorem kd_L_law_302 : decode kb_L_law 302 = .ok (.i2l, 1) := by decide +kernel
theorem kd_L_law_303 : decode kb_L_law 303 = .ok (.lcmp, 1) := by decide +kernel
theorem kd_L_law_304 : decode kb_L_law 304 = .ok (.ifCond .eq 5, 3) := by decide +kernel
theorem kd_L_law_307 : decode kb_L_law 307 = .ok (.iconst 0, 1) := by decide +kernel
theorem kd_L_law_308 : decode kb_L_law 308 = .ok (.ireturn, 1) := by decide +kernel
theorem kd_L_law_309 : decode kb_L_law 309 = .ok (.goto 312, 3) := by decide +kernel
theorem kd_L_law_312 : decode kb_L_law 312 = .ok (.aload_n 1, 1) := by decide +kernel
theorem kd_L_law_313 : decode kb_L_law 313 = .ok (.aload_n 0, 1) := by decide +kernel
theorem kd_L_law_314 : decode kb_L_law 314 = .ok (.iload 4, 2) := by decide +kernel
theorem kd_L_law_316 : decode kb_L_law 316 = .ok (.iconst 1, 1) := by decide +kernel
theorem kd_L_law_317 : decode kb_L_law 317 = .ok (.iadd, 1) := by decide +kernel
theorem kd_L_law_318 : decode kb_L_law 318 = .ok (.iaload, 1) := by decide +kernel
theorem kd_L_law_319 : decode kb_L_law 319 = .ok (.aload_n 0, 1) := by decide +kernel
theorem kd_L_law_320 : decode kb_L_law 320 = .ok (.iload 4, 2) := by decide +kernel
theorem kd_L_law_322 : decode kb_L_law 322 = .ok (.iconst 2, 1) := by decide +kernel
theorem kd_L_law_323 : decode kb_L_law 323 = .ok (.iadd, 1) := by decide +kernel
theorem kd_L_law_324 : decode kb_L_law 324 = .ok (.iaload, 1) := by decide +kernel
theorem kd_L_law_325 : decode kb_L_law 325 = .ok (.aload_n 0, 1) := by decide +kernel
theorem kd_L_law_326 : decode kb_L_law 326 = .ok (.iload 4, 2) := by decide +kernel
theorem kd_L_law_328 : decode kb_L_law 328 = .ok (.iconst 3, 1) := by decide +kernel
theorem kd_L_law_329 : decode kb_L_law 329 = .ok (.iadd, 1) := by decide +kernel
theorem kd_L_law_330 : decode kb_L_law 330 = .ok (.iaload, 1) := by decide +kernel
theorem kd_L_law_331 : decode kb_L_law 331 = .ok (.aload_n 0, 1) := by decide +kernel
theorem kd_L_law_332 : decode kb_L_law 332 = .ok (.iload 4, 2) := by decide +kernel
theorem kd_L_law_334 : decode kb_L_law 334 = .ok (.iconst 4, 1) := by decide +kernel
theorem kd_L_law_335 : decode kb_L_law 335 = .ok (.iadd, 1) := by decide +kernel
theorem kd_L_law_336 : decode kb_L_law 336 = .ok (.iaload, 1) := by decide +kernel
theorem kd_L_law_337 : decode kb_L_law 337 = .ok (.aload_n 3, 1) := by decide +kernel
theorem kd_L_law_338 : decode kb_L_law 338 = .ok (.invokestatic 65, 3) := by decide +kernel
theorem kd_L_law_341 : decode kb_L_law 341 = .ok (.istore 5, 2) := by decide +kernel
theorem kd_L_law_343 : decode kb_L_law 343 = .ok (.aload_n 2, 1) := by decide +kernel
theorem kd_L_law_344 : decode kb_L_law 344 = .ok (.aload_n 0, 1) := by decide +kernel
theorem kd_L_law_345 : decode kb_L_law 345 = .ok (.iload 4, 2) := by decide +kernel
theorem kd_L_law_347 : decode kb_L_law 347 = .ok (.iconst 1, 1) := by decide +kernel
theorem kd_L_law_348 : decode kb_L_law 348 = .ok (.iadd, 1) := by decide +kernel
theorem kd_L_law_349 : decode kb_L_law 349 = .ok (.iaload, 1) := by decide +kernel
theorem kd_L_law_350 : decode kb_L_law 350 = .ok (.aload_n 0, 1) := by decide +kernel
theorem kd_L_law_351 : decode kb_L_law 351 = .ok (.iload 4, 2) := by decide +kernel
theorem kd_L_law_353 : decode kb_L_law 353 = .ok (.iconst 2, 1) := by decide +kernel
theorem kd_L_law_354 : decode kb_L_law 354 = .ok (.iadd, 1) := by decide +kernel
theorem kd_L_law_355 : decode kb_L_law 355 = .ok (.iaload, 1) := by decide +kernel
theorem kd_L_law_356 : decode kb_L_law 356 = .ok (.aload_n 0, 1) := by decide +kernel
theorem kd_L_law_357 : decode kb_L_law 357 = .ok (.iload 4, 2) := by decide +kernel
theorem kd_L_law_359 : decode kb_L_law 359 = .ok (.iconst 3, 1) := by decide +kernel
theorem kd_L_law_360 : decode kb_L_law 360 = .ok (.iadd, 1) := by decide +kernel
theorem kd_L_law_361 : decode kb_L_law 361 = .ok (.iaload, 1) := by decide +kernel
theorem kd_L_law_362 : decode kb_L_law 362 = .ok (.aload_n 0, 1) := by decide +kernel
theorem kd_L_law_363 : decode kb_L_law 363 = .ok (.iload 4, 2) := by decide +kernel
theorem kd_L_law_365 : decode kb_L_law 365 = .ok (.iconst 4, 1) := by decide +kernel
theorem kd_L_law_366 : decode kb_L_law 366 = .ok (.iadd, 1) := by decide +kernel
theorem kd_L_law_367 : decode kb_L_law 367 = .ok (.iaload, 1) := by decide +kernel
theorem kd_L_law_368 : decode kb_L_law 368 = .ok (.invokevirtual 68, 3) := by decide +kernel
theorem kd_L_law_371 : decode kb_L_law 371 = .ok (.istore 6, 2) := by decide +kernel
theorem kd_L_law_373 : decode kb_L_law 373 = .ok (.aload_n 2, 1) := by decide +kernel
theorem kd_L_law_374 : decode kb_L_law 374 = .ok (.invokevirtual 53, 3) := by decide +kernel
theorem kd_L_law_377 : decode kb_L_law 377 = .ok (.iload 5, 2) := by decide +kernel
theorem kd_L_law_379 : decode kb_L_law 379 = .ok (.if_icmp .eq 5, 3) := by decide +kernel
theorem kd_L_law_382 : decode kb_L_law 382 = .ok (.iconst 0, 1) := by decide +kernel
theorem kd_L_law_383 : decode kb_L_law 383 = .ok (.ireturn, 1) := by decide +kernel
theorem kd_L_law_384 : decode kb_L_law 384 = .ok (.iload 5, 2) := by decide +kernel
theorem kd_L_law_386 : decode kb_L_law 386 = .ok (.ifCond .ne 15, 3) := by decide +kernel
theorem kd_L_law_389 : decode kb_L_law 389 = .ok (.aload_n 3, 1) := by decide +kernel
theorem kd_L_law_390 : decode kb_L_law 390 = .ok (.iconst 0, 1) := by decide +kernel
theorem kd_L_law_391 : decode kb_L_law 391 = .ok (.laload, 1) := by decide +kernel
theorem kd_L_law_392 : decode kb_L_law 392 = .ok (.iload 6, 2) := by decide +kernel
theorem kd_L_law_394 : decode kb_L_law 394 = .ok (.i2l, 1) := by decide +kernel
theorem kd_L_law_395 : decode kb_L_law 395 = .ok (.lcmp, 1) := by decide +kernel
theorem kd_L_law_396 : decode kb_L_law 396 = .ok (.ifCond .eq 5, 3) := by decide +kernel
theorem kd_L_law_399 : decode kb_L_law 399 = .ok (.iconst 0, 1) := by decide +kernel
theorem kd_L_law_400 : decode kb_L_law 400 = .ok (.ireturn, 1) := by decide +kernel
theorem kd_L_law_401 : decode kb_L_law 401 = .ok (.goto 220, 3) := by decide +kernel
theorem kd_L_law_404 : decode kb_L_law 404 = .ok (.aload_n 1, 1) := by decide +kernel
theorem kd_L_law_405 : decode kb_L_law 405 = .ok (.aload_n 0, 1) := by decide +kernel
theorem kd_L_law_406 : decode kb_L_law 406 = .ok (.iload 4, 2) := by decide +kernel
theorem kd_L_law_408 : decode kb_L_law 408 = .ok (.iconst 1, 1) := by decide +kernel
theorem kd_L_law_409 : decode kb_L_law 409 = .ok (.iadd, 1) := by decide +kernel
theorem kd_L_law_410 : decode kb_L_law 410 = .ok (.iaload, 1) := by decide +kernel
theorem kd_L_law_411 : decode kb_L_law 411 = .ok (.aload_n 0, 1) := by decide +kernel
theorem kd_L_law_412 : decode kb_L_law 412 = .ok (.iload 4, 2) := by decide +kernel
theorem kd_L_law_414 : decode kb_L_law 414 = .ok (.iconst 2, 1) := by decide +kernel
theorem kd_L_law_415 : decode kb_L_law 415 = .ok (.iadd, 1) := by decide +kernel
theorem kd_L_law_416 : decode kb_L_law 416 = .ok (.iaload, 1) := by decide +kernel
theorem kd_L_law_417 : decode kb_L_law 417 = .ok (.aload_n 3, 1) := by decide +kernel
theorem kd_L_law_418 : decode kb_L_law 418 = .ok (.invokestatic 69, 3) := by decide +kernel
theorem kd_L_law_421 : decode kb_L_law 421 = .ok (.istore 5, 2) := by decide +kernel
theorem kd_L_law_423 : decode kb_L_law 423 = .ok (.aload_n 2, 1) := by decide +kernel
theorem kd_L_law_424 : decode kb_L_law 424 = .ok (.aload_n 0, 1) := by decide +kernel
theorem kd_L_law_425 : decode kb_L_law 425 = .ok (.iload 4, 2) := by decide +kernel
theorem kd_L_law_427 : decode kb_L_law 427 = .ok (.iconst 1, 1) := by decide +kernel
theorem kd_L_law_428 : decode kb_L_law 428 = .ok (.iadd, 1) := by decide +kernel
theorem kd_L_law_429 : decode kb_L_law 429 = .ok (.iaload, 1) := by decide +kernel
theorem kd_L_law_430 : decode kb_L_law 430 = .ok (.aload_n 0, 1) := by decide +kernel
theorem kd_L_law_431 : decode kb_L_law 431 = .ok (.iload 4, 2) := by decide +kernel
theorem kd_L_law_433 : decode kb_L_law 433 = .ok (.iconst 2, 1) := by decide +kernel
theorem kd_L_law_434 : decode kb_L_law 434 = .ok (.iadd, 1) := by decide +kernel
theorem kd_L_law_435 : decode kb_L_law 435 = .ok (.iaload, 1) := by decide +kernel
theorem kd_L_law_436 : decode kb_L_law 436 = .ok (.invokevirtual 72, 3) := by decide +kernel
theorem kd_L_law_439 : decode kb_L_law 439 = .ok (.istore 6, 2) := by decide +kernel
theorem kd_L_law_441 : decode kb_L_law 441 = .ok (.aload_n 2, 1) := by decide +kernel
theorem kd_L_law_442 : decode kb_L_law 442 = .ok (.invokevirtual 53, 3) := by decide +kernel
theorem kd_L_law_445 : decode kb_L_law 445 = .ok (.iload 5, 2) := by decide +kernel
theorem kd_L_law_447 : decode kb_L_law 447 = .ok (.if_icmp .eq 5, 3) := by decide +kernel
theorem kd_L_law_450 : decode kb_L_law 450 = .ok (.iconst 0, 1) := by decide +kernel
theorem kd_L_law_451 : decode kb_L_law 451 = .ok (.ireturn, 1) := by decide +kernel
theorem kd_L_law_452 : decode kb_L_law 452 = .ok (.iload 5, 2) := by decide +kernel
theorem kd_L_law_454 : decode kb_L_law 454 = .ok (.ifCond .ne 15, 3) := by decide +kernel
theorem kd_L_law_457 : decode kb_L_law 457 = .ok (.aload_n 3, 1) := by decide +kernel
theorem kd_L_law_458 : decode kb_L_law 458 = .ok (.iconst 0, 1) := by decide +kernel
theorem kd_L_law_459 : decode kb_L_law 459 = .ok (.laload, 1) := by decide +kernel
theorem kd_L_law_460 : decode kb_L_law 460 = .ok (.iload 6, 2) := by decide +kernel
theorem kd_L_law_462 : decode kb_L_law 462 = .ok (.i2l, 1) := by decide +kernel
theorem kd_L_law_463 : decode kb_L_law 463 = .ok (.lcmp, 1) := by decide +kernel
theorem kd_L_law_464 : decode kb_L_law 464 = .ok (.ifCond .eq 5, 3) := by decide +kernel
theorem kd_L_law_467 : decode kb_L_law 467 = .ok (.iconst 0, 1) := by decide +kernel
theorem kd_L_law_468 : decode kb_L_law 468 = .ok (.ireturn, 1) := by decide +kernel
theorem kd_L_law_469 : decode kb_L_law 469 = .ok (.goto 152, 3) := by decide +kernel
theorem kd_L_law_472 : decode kb_L_law 472 = .ok (.aload_n 1, 1) := by decide +kernel
theorem kd_L_law_473 : decode kb_L_law 473 = .ok (.invokevirtual 73, 3) := by decide +kernel
theorem kd_L_law_476 : decode kb_L_law 476 = .ok (.aload_n 2, 1) := by decide +kernel
theorem kd_L_law_477 : decode kb_L_law 477 = .ok (.invokevirtual 76, 3) := by decide +kernel
theorem kd_L_law_480 : decode kb_L_law 480 = .ok (.if_icmp .eq 141, 3) := by decide +kernel
theorem kd_L_law_483 : decode kb_L_law 483 = .ok (.iconst 0, 1) := by decide +kernel
theorem kd_L_law_484 : decode kb_L_law 484 = .ok (.ireturn, 1) := by decide +kernel
theorem kd_L_law_485 : decode kb_L_law 485 = .ok (.aload_n 1, 1) := by decide +kernel
theorem kd_L_law_486 : decode kb_L_law 486 = .ok (.aload_n 0, 1) := by decide +kernel
theorem kd_L_law_487 : decode kb_L_law 487 = .ok (.iload 4, 2) := by decide +kernel
theorem kd_L_law_489 : decode kb_L_law 489 = .ok (.iconst 1, 1) := by decide +kernel
theorem kd_L_law_490 : decode kb_L_law 490 = .ok (.iadd, 1) := by decide +kernel
theorem kd_L_law_491 : decode kb_L_law 491 = .ok (.iaload, 1) := by decide +kernel
theorem kd_L_law_492 : decode kb_L_law 492 = .ok (.aload_n 0, 1) := by decide +kernel
theorem kd_L_law_493 : decode kb_L_law 493 = .ok (.iload 4, 2) := by decide +kernel
theorem kd_L_law_495 : decode kb_L_law 495 = .ok (.iconst 2, 1) := by decide +kernel
theorem kd_L_law_496 : decode kb_L_law 496 = .ok (.iadd, 1) := by decide +kernel
theorem kd_L_law_497 : decode kb_L_law 497 = .ok (.iaload, 1) := by decide +kernel
theorem kd_L_law_498 : decode kb_L_law 498 = .ok (.aload_n 3, 1) := by decide +kernel
theorem kd_L_law_499 : decode kb_L_law 499 = .ok (.invokestatic 77, 3) := by decide +kernel
theorem kd_L_law_502 : decode kb_L_law 502 = .ok (.istore 5, 2) := by decide +kernel
theorem kd_L_law_504 : decode kb_L_law 504 = .ok (.aload_n 2, 1) := by decide +kernel
theorem kd_L_law_505 : decode kb_L_law 505 = .ok (.aload_n 0, 1) := by decide +kernel
theorem kd_L_law_506 : decode kb_L_law 506 = .ok (.iload 4, 2) := by decide +kernel
theorem kd_L_law_508 : decode kb_L_law 508 = .ok (.iconst 1, 1) := by decide +kernel
theorem kd_L_law_509 : decode kb_L_law 509 = .ok (.iadd, 1) := by decide +kernel
theorem kd_L_law_510 : decode kb_L_law 510 = .ok (.iaload, 1) := by decide +kernel
theorem kd_L_law_511 : decode kb_L_law 511 = .ok (.aload_n 0, 1) := by decide +kernel
theorem kd_L_law_512 : decode kb_L_law 512 = .ok (.iload 4, 2) := by decide +kernel
theorem kd_L_law_514 : decode kb_L_law 514 = .ok (.iconst 2, 1) := by decide +kernel
theorem kd_L_law_515 : decode kb_L_law 515 = .ok (.iadd, 1) := by decide +kernel
theorem kd_L_law_516 : decode kb_L_law 516 = .ok (.iaload, 1) := by decide +kernel
theorem kd_L_law_517 : decode kb_L_law 517 = .ok (.invokevirtual 79, 3) := by decide +kernel
theorem kd_L_law_520 : decode kb_L_law 520 = .ok (.istore 6, 2) := by decide +kernel
theorem kd_L_law_522 : decode kb_L_law 522 = .ok (.aload_n 2, 1) := by decide +kernel
theorem kd_L_law_523 : decode kb_L_law 523 = .ok (.invokevirtual 53, 3) := by decide +kernel
theorem kd_L_law_526 : decode kb_L_law 526 = .ok (.iload 5, 2) := by decide +kernel
theorem kd_L_law_528 : decode kb_L_law 528 = .ok (.if_icmp .eq 5, 3) := by decide +kernel
theorem kd_L_law_531 : decode kb_L_law 531 = .ok (.iconst 0, 1) := by decide +kernel
theorem kd_L_law_532 : decode kb_L_law 532 = .ok (.ireturn, 1) := by decide +kernel
theorem kd_L_law_533 : decode kb_L_law 533 = .ok (.iload 5, 2) := by decide +kernel
theorem kd_L_law_535 : decode kb_L_law 535 = .ok (.ifCond .ne 15, 3) := by decide +kernel
theorem kd_L_law_538 : decode kb_L_law 538 = .ok (.aload_n 3, 1) := by decide +kernel
theorem kd_L_law_539 : decode kb_L_law 539 = .ok (.iconst 0, 1) := by decide +kernel
theorem kd_L_law_540 : decode kb_L_law 540 = .ok (.laload, 1) := by decide +kernel
theorem kd_L_law_541 : decode kb_L_law 541 = .ok (.iload 6, 2) := by decide +kernel
theorem kd_L_law_543 : decode kb_L_law 543 = .ok (.i2l, 1) := by decide +kernel
theorem kd_L_law_544 : decode kb_L_law 544 = .ok (.lcmp, 1) := by decide +kernel
theorem kd_L_law_545 : decode kb_L_law 545 = .ok (.ifCond .eq 5, 3) := by decide +kernel
theorem kd_L_law_548 : decode kb_L_law 548 = .ok (.iconst 0, 1) := by decide +kernel
theorem kd_L_law_549 : decode kb_L_law 549 = .ok (.ireturn, 1) := by decide +kernel
theorem kd_L_law_550 : decode kb_L_law 550 = .ok (.goto 71, 3) := by decide +kernel
theorem kd_L_law_553 : decode kb_L_law 553 = .ok (.aload_n 1, 1) := by decide +kernel
theorem kd_L_law_554 : decode kb_L_law 554 = .ok (.aload_n 0, 1) := by decide +kernel
theorem kd_L_law_555 : decode kb_L_law 555 = .ok (.iload 4, 2) := by decide +kernel
theorem kd_L_law_557 : decode kb_L_law 557 = .ok (.iconst 1, 1) := by decide +kernel
theorem kd_L_law_558 : decode kb_L_law 558 = .ok (.iadd, 1) := by decide +kernel
theorem kd_L_law_559 : decode kb_L_law 559 = .ok (.iaload, 1) := by decide +kernel
theorem kd_L_law_560 : decode kb_L_law 560 = .ok (.aload_n 0, 1) := by decide +kernel
theorem kd_L_law_561 : decode kb_L_law 561 = .ok (.iload 4, 2) := by decide +kernel
theorem kd_L_law_563 : decode kb_L_law 563 = .ok (.iconst 2, 1) := by decide +kernel
theorem kd_L_law_564 : decode kb_L_law 564 = .ok (.iadd, 1) := by decide +kernel
theorem kd_L_law_565 : decode kb_L_law 565 = .ok (.iaload, 1) := by decide +kernel
theorem kd_L_law_566 : decode kb_L_law 566 = .ok (.aload_n 3, 1) := by decide +kernel
theorem kd_L_law_567 : decode kb_L_law 567 = .ok (.invokestatic 80, 3) := by decide +kernel
theorem kd_L_law_570 : decode kb_L_law 570 = .ok (.istore 5, 2) := by decide +kernel
theorem kd_L_law_572 : decode kb_L_law 572 = .ok (.aload_n 2, 1) := by decide +kernel
theorem kd_L_law_573 : decode kb_L_law 573 = .ok (.aload_n 0, 1) := by decide +kernel
theorem kd_L_law_574 : decode kb_L_law 574 = .ok (.iload 4, 2) := by decide +kernel
theorem kd_L_law_576 : decode kb_L_law 576 = .ok (.iconst 1, 1) := by decide +kernel
theorem kd_L_law_577 : decode kb_L_law 577 = .ok (.iadd, 1) := by decide +kernel
theorem kd_L_law_578 : decode kb_L_law 578 = .ok (.iaload, 1) := by decide +kernel
theorem kd_L_law_579 : decode kb_L_law 579 = .ok (.aload_n 0, 1) := by decide +kernel
theorem kd_L_law_580 : decode kb_L_law 580 = .ok (.iload 4, 2) := by decide +kernel
theorem kd_L_law_582 : decode kb_L_law 582 = .ok (.iconst 2, 1) := by decide +kernel
theorem kd_L_law_583 : decode kb_L_law 583 = .ok (.iadd, 1) := by decide +kernel
theorem kd_L_law_584 : decode kb_L_law 584 = .ok (.iaload, 1) := by decide +kernel
theorem kd_L_law_585 : decode kb_L_law 585 = .ok (.invokevirtual 82, 3) := by decide +kernel
theorem kd_L_law_588 : decode kb_L_law 588 = .ok (.istore 6, 2) := by decide +kernel
theorem kd_L_law_590 : decode kb_L_law 590 = .ok (.aload_n 2, 1) := by decide +kernel
theorem kd_L_law_591 : decode kb_L_law 591 = .ok (.invokevirtual 53, 3) := by decide +kernel
theorem kd_L_law_594 : decode kb_L_law 594 = .ok (.iload 5, 2) := by decide +kernel
theorem kd_L_law_596 : decode kb_L_law 596 = .ok (.if_icmp .eq 5, 3) := by decide +kernel
theorem kd_L_law_599 : decode kb_L_law 599 = .ok (.iconst 0, 1) := by decide +kernel
theorem kd_L_law_600 : decode kb_L_law 600 = .ok (.ireturn, 1) := by decide +kernel
theorem kd_L_law_601 : decode kb_L_law 601 = .ok (.iload 5, 2) := by decide +kernel
theorem kd_L_law_603 : decode kb_L_law 603 = .ok (.ifCond .ne 15, 3) := by decide +kernel
theorem kd_L_law_606 : decode kb_L_law 606 = .ok (.aload_n 3, 1) := by decide +kernel
theorem kd_L_law_607 : decode kb_L_law 607 = .ok (.iconst 0, 1) := by decide +kernel
theorem kd_L_law_608 : decode kb_L_law 608 = .ok (.laload, 1) := by decide +kernel
theorem kd_L_law_609 : decode kb_L_law 609 = .ok (.iload 6, 2) := by decide +kernel
theorem kd_L_law_611 : decode kb_L_law 611 = .ok (.i2l, 1) := by decide +kernel
theorem kd_L_law_612 : decode kb_L_law 612 = .ok (.lcmp, 1) := by decide +kernel
theorem kd_L_law_613 : decode kb_L_law 613 = .ok (.ifCond .eq 5, 3) := by decide +kernel
theorem kd_L_law_616 : decode kb_L_law 616 = .ok (.iconst 0, 1) := by decide +kernel
theorem kd_L_law_617 : decode kb_L_law 617 = .ok (.ireturn, 1) := by decide +kernel
theorem kd_L_law_618 : decode kb_L_law 618 = .ok (.goto 3, 3) := by decide +kernel
theorem kd_L_law_621 : decode kb_L_law 621 = .ok (.iinc 4 6, 3) := by decide +kernel
theorem kd_L_law_624 : decode kb_L_law 624 = .ok (.goto (-601), 3) := by decide +kernel
theorem kd_L_law_627 : decode kb_L_law 627 = .ok (.iconst 1, 1) := by decide +kernel
theorem kd_L_law_628 : decode kb_L_law 628 = .ok (.ireturn, 1) := by decide +kernel
