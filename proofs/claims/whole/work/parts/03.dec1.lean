theorem kd_Y_init_0 : decode kb_Y_init 0 = .ok (.aload_n 0, 1) := by decide +kernel
theorem kd_Y_init_1 : decode kb_Y_init 1 = .ok (.invokespecial 1, 3) := by decide +kernel
theorem kd_Y_init_4 : decode kb_Y_init 4 = .ok (.aload_n 0, 1) := by decide +kernel
theorem kd_Y_init_5 : decode kb_Y_init 5 = .ok (.iconst 4, 1) := by decide +kernel
theorem kd_Y_init_6 : decode kb_Y_init 6 = .ok (.anewarray 9, 3) := by decide +kernel
theorem kd_Y_init_9 : decode kb_Y_init 9 = .ok (.putfield 11, 3) := by decide +kernel
theorem kd_Y_init_12 : decode kb_Y_init 12 = .ok (.aload_n 0, 1) := by decide +kernel
theorem kd_Y_init_13 : decode kb_Y_init 13 = .ok (.new 15, 3) := by decide +kernel
theorem kd_Y_init_16 : decode kb_Y_init 16 = .ok (.dup, 1) := by decide +kernel
theorem kd_Y_init_17 : decode kb_Y_init 17 = .ok (.invokespecial 17, 3) := by decide +kernel
theorem kd_Y_init_20 : decode kb_Y_init 20 = .ok (.putfield 18, 3) := by decide +kernel
theorem kd_Y_init_23 : decode kb_Y_init 23 = .ok (.return_, 1) := by decide +kernel
theorem kd_W_init_0 : decode kb_W_init 0 = .ok (.aload_n 0, 1) := by decide +kernel
theorem kd_W_init_1 : decode kb_W_init 1 = .ok (.invokespecial 3, 3) := by decide +kernel
theorem kd_W_init_4 : decode kb_W_init 4 = .ok (.aload_n 0, 1) := by decide +kernel
theorem kd_W_init_5 : decode kb_W_init 5 = .ok (.sipush 400, 3) := by decide +kernel
theorem kd_W_init_8 : decode kb_W_init 8 = .ok (.newarray .int, 2) := by decide +kernel
theorem kd_W_init_10 : decode kb_W_init 10 = .ok (.putfield 9, 3) := by decide +kernel
theorem kd_W_init_13 : decode kb_W_init 13 = .ok (.aload_n 0, 1) := by decide +kernel
theorem kd_W_init_14 : decode kb_W_init 14 = .ok (.sipush 400, 3) := by decide +kernel
theorem kd_W_init_17 : decode kb_W_init 17 = .ok (.newarray .int, 2) := by decide +kernel
theorem kd_W_init_19 : decode kb_W_init 19 = .ok (.putfield 15, 3) := by decide +kernel
theorem kd_W_init_22 : decode kb_W_init 22 = .ok (.aload_n 0, 1) := by decide +kernel
theorem kd_W_init_23 : decode kb_W_init 23 = .ok (.sipush 4096, 3) := by decide +kernel
theorem kd_W_init_26 : decode kb_W_init 26 = .ok (.newarray .int, 2) := by decide +kernel
theorem kd_W_init_28 : decode kb_W_init 28 = .ok (.putfield 18, 3) := by decide +kernel
theorem kd_W_init_31 : decode kb_W_init 31 = .ok (.aload_n 0, 1) := by decide +kernel
theorem kd_W_init_32 : decode kb_W_init 32 = .ok (.bipush 64, 2) := by decide +kernel
theorem kd_W_init_34 : decode kb_W_init 34 = .ok (.newarray .int, 2) := by decide +kernel
theorem kd_W_init_36 : decode kb_W_init 36 = .ok (.putfield 21, 3) := by decide +kernel
theorem kd_W_init_39 : decode kb_W_init 39 = .ok (.return_, 1) := by decide +kernel
theorem kd_Y_accesses_0 : decode kb_Y_accesses 0 = .ok (.aload_n 0, 1) := by decide +kernel
theorem kd_Y_accesses_1 : decode kb_Y_accesses 1 = .ok (.getfield 18, 3) := by decide +kernel
theorem kd_Y_accesses_4 : decode kb_Y_accesses 4 = .ok (.invokevirtual 56, 3) := by decide +kernel
theorem kd_Y_accesses_7 : decode kb_Y_accesses 7 = .ok (.ireturn, 1) := by decide +kernel
theorem kd_W_length_0 : decode kb_W_length 0 = .ok (.aload_n 0, 1) := by decide +kernel
theorem kd_W_length_1 : decode kb_W_length 1 = .ok (.getfield 24, 3) := by decide +kernel
theorem kd_W_length_4 : decode kb_W_length 4 = .ok (.ireturn, 1) := by decide +kernel
theorem kd_Y_make_0 : decode kb_Y_make 0 = .ok (.iload_n 1, 1) := by decide +kernel
theorem kd_Y_make_1 : decode kb_Y_make 1 = .ok (.ifCond .lt 8, 3) := by decide +kernel
theorem kd_Y_make_4 : decode kb_Y_make 4 = .ok (.iload_n 1, 1) := by decide +kernel
theorem kd_Y_make_5 : decode kb_Y_make 5 = .ok (.iconst 4, 1) := by decide +kernel
theorem kd_Y_make_6 : decode kb_Y_make 6 = .ok (.if_icmp .lt 13, 3) := by decide +kernel
theorem kd_Y_make_9 : decode kb_Y_make 9 = .ok (.new 22, 3) := by decide +kernel
theorem kd_Y_make_12 : decode kb_Y_make 12 = .ok (.dup, 1) := by decide +kernel
theorem kd_Y_make_13 : decode kb_Y_make 13 = .ok (.ldc 24, 2) := by decide +kernel
theorem kd_Y_make_15 : decode kb_Y_make 15 = .ok (.invokespecial 26, 3) := by decide +kernel
theorem kd_Y_make_18 : decode kb_Y_make 18 = .ok (.athrow, 1) := by decide +kernel
theorem kd_Y_make_19 : decode kb_Y_make 19 = .ok (.iload_n 2, 1) := by decide +kernel
theorem kd_Y_make_20 : decode kb_Y_make 20 = .ok (.ifCond .lt 8, 3) := by decide +kernel
theorem kd_Y_make_23 : decode kb_Y_make 23 = .ok (.iload_n 2, 1) := by decide +kernel
theorem kd_Y_make_24 : decode kb_Y_make 24 = .ok (.iconst 4, 1) := by decide +kernel
theorem kd_Y_make_25 : decode kb_Y_make 25 = .ok (.if_icmp .le 13, 3) := by decide +kernel
theorem kd_Y_make_28 : decode kb_Y_make 28 = .ok (.new 22, 3) := by decide +kernel
theorem kd_Y_make_31 : decode kb_Y_make 31 = .ok (.dup, 1) := by decide +kernel
theorem kd_Y_make_32 : decode kb_Y_make 32 = .ok (.ldc 29, 2) := by decide +kernel
theorem kd_Y_make_34 : decode kb_Y_make 34 = .ok (.invokespecial 26, 3) := by decide +kernel
theorem kd_Y_make_37 : decode kb_Y_make 37 = .ok (.athrow, 1) := by decide +kernel
theorem kd_Y_make_38 : decode kb_Y_make 38 = .ok (.iload_n 3, 1) := by decide +kernel
theorem kd_Y_make_39 : decode kb_Y_make 39 = .ok (.iconst 1, 1) := by decide +kernel
theorem kd_Y_make_40 : decode kb_Y_make 40 = .ok (.if_icmp .lt 9, 3) := by decide +kernel
theorem kd_Y_make_43 : decode kb_Y_make 43 = .ok (.iload_n 3, 1) := by decide +kernel
theorem kd_Y_make_44 : decode kb_Y_make 44 = .ok (.bipush 8, 2) := by decide +kernel
theorem kd_Y_make_46 : decode kb_Y_make 46 = .ok (.if_icmp .le 13, 3) := by decide +kernel
theorem kd_Y_make_49 : decode kb_Y_make 49 = .ok (.new 22, 3) := by decide +kernel
theorem kd_Y_make_52 : decode kb_Y_make 52 = .ok (.dup, 1) := by decide +kernel
theorem kd_Y_make_53 : decode kb_Y_make 53 = .ok (.ldc 31, 2) := by decide +kernel
theorem kd_Y_make_55 : decode kb_Y_make 55 = .ok (.invokespecial 26, 3) := by decide +kernel
theorem kd_Y_make_58 : decode kb_Y_make 58 = .ok (.athrow, 1) := by decide +kernel
theorem kd_Y_make_59 : decode kb_Y_make 59 = .ok (.iload 4, 2) := by decide +kernel
theorem kd_Y_make_61 : decode kb_Y_make 61 = .ok (.ifCond .lt 9, 3) := by decide +kernel
theorem kd_Y_make_64 : decode kb_Y_make 64 = .ok (.iload 4, 2) := by decide +kernel
theorem kd_Y_make_66 : decode kb_Y_make 66 = .ok (.iconst 2, 1) := by decide +kernel
theorem kd_Y_make_67 : decode kb_Y_make 67 = .ok (.if_icmp .le 13, 3) := by decide +kernel
theorem kd_Y_make_70 : decode kb_Y_make 70 = .ok (.new 22, 3) := by decide +kernel
theorem kd_Y_make_73 : decode kb_Y_make 73 = .ok (.dup, 1) := by decide +kernel
theorem kd_Y_make_74 : decode kb_Y_make 74 = .ok (.ldc 33, 2) := by decide +kernel
theorem kd_Y_make_76 : decode kb_Y_make 76 = .ok (.invokespecial 26, 3) := by decide +kernel
theorem kd_Y_make_79 : decode kb_Y_make 79 = .ok (.athrow, 1) := by decide +kernel
theorem kd_Y_make_80 : decode kb_Y_make 80 = .ok (.iload 4, 2) := by decide +kernel
theorem kd_Y_make_82 : decode kb_Y_make 82 = .ok (.iconst 2, 1) := by decide +kernel
theorem kd_Y_make_83 : decode kb_Y_make 83 = .ok (.if_icmp .ne 21, 3) := by decide +kernel
theorem kd_Y_make_86 : decode kb_Y_make 86 = .ok (.iload_n 3, 1) := by decide +kernel
theorem kd_Y_make_87 : decode kb_Y_make 87 = .ok (.invokestatic 35, 3) := by decide +kernel
theorem kd_Y_make_90 : decode kb_Y_make 90 = .ok (.iconst 1, 1) := by decide +kernel
theorem kd_Y_make_91 : decode kb_Y_make 91 = .ok (.if_icmp .eq 13, 3) := by decide +kernel
theorem kd_Y_make_94 : decode kb_Y_make 94 = .ok (.new 22, 3) := by decide +kernel
theorem kd_Y_make_97 : decode kb_Y_make 97 = .ok (.dup, 1) := by decide +kernel
theorem kd_Y_make_98 : decode kb_Y_make 98 = .ok (.ldc 41, 2) := by decide +kernel
theorem kd_Y_make_100 : decode kb_Y_make 100 = .ok (.invokespecial 26, 3) := by decide +kernel
theorem kd_Y_make_103 : decode kb_Y_make 103 = .ok (.athrow, 1) := by decide +kernel
theorem kd_Y_make_104 : decode kb_Y_make 104 = .ok (.iload 5, 2) := by decide +kernel
theorem kd_Y_make_106 : decode kb_Y_make 106 = .ok (.invokestatic 43, 3) := by decide +kernel
theorem kd_Y_make_109 : decode kb_Y_make 109 = .ok (.ifCond .ne 13, 3) := by decide +kernel
theorem kd_Y_make_112 : decode kb_Y_make 112 = .ok (.new 22, 3) := by decide +kernel
theorem kd_Y_make_115 : decode kb_Y_make 115 = .ok (.dup, 1) := by decide +kernel
theorem kd_Y_make_116 : decode kb_Y_make 116 = .ok (.ldc 47, 2) := by decide +kernel
theorem kd_Y_make_118 : decode kb_Y_make 118 = .ok (.invokespecial 26, 3) := by decide +kernel
theorem kd_Y_make_121 : decode kb_Y_make 121 = .ok (.athrow, 1) := by decide +kernel
theorem kd_Y_make_122 : decode kb_Y_make 122 = .ok (.aload_n 0, 1) := by decide +kernel
theorem kd_Y_make_123 : decode kb_Y_make 123 = .ok (.getfield 11, 3) := by decide +kernel
theorem kd_Y_make_126 : decode kb_Y_make 126 = .ok (.iload_n 1, 1) := by decide +kernel
theorem kd_Y_make_127 : decode kb_Y_make 127 = .ok (.aaload, 1) := by decide +kernel
theorem kd_Y_make_128 : decode kb_Y_make 128 = .ok (.astore 6, 2) := by decide +kernel
theorem kd_Y_make_130 : decode kb_Y_make 130 = .ok (.aload 6, 2) := by decide +kernel
theorem kd_Y_make_132 : decode kb_Y_make 132 = .ok (.ifnonnull 20, 3) := by decide +kernel
theorem kd_Y_make_135 : decode kb_Y_make 135 = .ok (.new 9, 3) := by decide +kernel
theorem kd_Y_make_138 : decode kb_Y_make 138 = .ok (.dup, 1) := by decide +kernel
theorem kd_Y_make_139 : decode kb_Y_make 139 = .ok (.invokespecial 49, 3) := by decide +kernel
theorem kd_Y_make_142 : decode kb_Y_make 142 = .ok (.astore 6, 2) := by decide +kernel
theorem kd_Y_make_144 : decode kb_Y_make 144 = .ok (.aload_n 0, 1) := by decide +kernel
theorem kd_Y_make_145 : decode kb_Y_make 145 = .ok (.getfield 11, 3) := by decide +kernel
theorem kd_Y_make_148 : decode kb_Y_make 148 = .ok (.iload_n 1, 1) := by decide +kernel
theorem kd_Y_make_149 : decode kb_Y_make 149 = .ok (.aload 6, 2) := by decide +kernel
theorem kd_Y_make_151 : decode kb_Y_make 151 = .ok (.aastore, 1) := by decide +kernel
theorem kd_Y_make_152 : decode kb_Y_make 152 = .ok (.aload 6, 2) := by decide +kernel
theorem kd_Y_make_154 : decode kb_Y_make 154 = .ok (.iload_n 2, 1) := by decide +kernel
theorem kd_Y_make_155 : decode kb_Y_make 155 = .ok (.iload_n 3, 1) := by decide +kernel
theorem kd_Y_make_156 : decode kb_Y_make 156 = .ok (.iload 4, 2) := by decide +kernel
theorem kd_Y_make_158 : decode kb_Y_make 158 = .ok (.iload 5, 2) := by decide +kernel
theorem kd_Y_make_160 : decode kb_Y_make 160 = .ok (.invokevirtual 50, 3) := by decide +kernel
theorem kd_Y_make_163 : decode kb_Y_make 163 = .ok (.return_, 1) := by decide +kernel
theorem kd_I_bitCount_0 : decode kb_I_bitCount 0 = .ok (.iload_n 0, 1) := by decide +kernel
theorem kd_I_bitCount_1 : decode kb_I_bitCount 1 = .ok (.iload_n 0, 1) := by decide +kernel
theorem kd_I_bitCount_2 : decode kb_I_bitCount 2 = .ok (.iconst 1, 1) := by decide +kernel
theorem kd_I_bitCount_3 : decode kb_I_bitCount 3 = .ok (.iushr, 1) := by decide +kernel
theorem kd_I_bitCount_4 : decode kb_I_bitCount 4 = .ok (.ldc_w 265, 3) := by decide +kernel
theorem kd_I_bitCount_7 : decode kb_I_bitCount 7 = .ok (.iand, 1) := by decide +kernel
theorem kd_I_bitCount_8 : decode kb_I_bitCount 8 = .ok (.isub, 1) := by decide +kernel
theorem kd_I_bitCount_9 : decode kb_I_bitCount 9 = .ok (.istore_n 0, 1) := by decide +kernel
theorem kd_I_bitCount_10 : decode kb_I_bitCount 10 = .ok (.iload_n 0, 1) := by decide +kernel
theorem kd_I_bitCount_11 : decode kb_I_bitCount 11 = .ok (.ldc_w 266, 3) := by decide +kernel
theorem kd_I_bitCount_14 : decode kb_I_bitCount 14 = .ok (.iand, 1) := by decide +kernel
theorem kd_I_bitCount_15 : decode kb_I_bitCount 15 = .ok (.iload_n 0, 1) := by decide +kernel
theorem kd_I_bitCount_16 : decode kb_I_bitCount 16 = .ok (.iconst 2, 1) := by decide +kernel
theorem kd_I_bitCount_17 : decode kb_I_bitCount 17 = .ok (.iushr, 1) := by decide +kernel
theorem kd_I_bitCount_18 : decode kb_I_bitCount 18 = .ok (.ldc_w 266, 3) := by decide +kernel
theorem kd_I_bitCount_21 : decode kb_I_bitCount 21 = .ok (.iand, 1) := by decide +kernel
theorem kd_I_bitCount_22 : decode kb_I_bitCount 22 = .ok (.iadd, 1) := by decide +kernel
theorem kd_I_bitCount_23 : decode kb_I_bitCount 23 = .ok (.istore_n 0, 1) := by decide +kernel
theorem kd_I_bitCount_24 : decode kb_I_bitCount 24 = .ok (.iload_n 0, 1) := by decide +kernel
theorem kd_I_bitCount_25 : decode kb_I_bitCount 25 = .ok (.iload_n 0, 1) := by decide +kernel
theorem kd_I_bitCount_26 : decode kb_I_bitCount 26 = .ok (.iconst 4, 1) := by decide +kernel
theorem kd_I_bitCount_27 : decode kb_I_bitCount 27 = .ok (.iushr, 1) := by decide +kernel
theorem kd_I_bitCount_28 : decode kb_I_bitCount 28 = .ok (.iadd, 1) := by decide +kernel
theorem kd_I_bitCount_29 : decode kb_I_bitCount 29 = .ok (.ldc_w 267, 3) := by decide +kernel
theorem kd_I_bitCount_32 : decode kb_I_bitCount 32 = .ok (.iand, 1) := by decide +kernel
theorem kd_I_bitCount_33 : decode kb_I_bitCount 33 = .ok (.istore_n 0, 1) := by decide +kernel
theorem kd_I_bitCount_34 : decode kb_I_bitCount 34 = .ok (.iload_n 0, 1) := by decide +kernel
theorem kd_I_bitCount_35 : decode kb_I_bitCount 35 = .ok (.iload_n 0, 1) := by decide +kernel
theorem kd_I_bitCount_36 : decode kb_I_bitCount 36 = .ok (.bipush 8, 2) := by decide +kernel
theorem kd_I_bitCount_38 : decode kb_I_bitCount 38 = .ok (.iushr, 1) := by decide +kernel
theorem kd_I_bitCount_39 : decode kb_I_bitCount 39 = .ok (.iadd, 1) := by decide +kernel
theorem kd_I_bitCount_40 : decode kb_I_bitCount 40 = .ok (.istore_n 0, 1) := by decide +kernel
theorem kd_I_bitCount_41 : decode kb_I_bitCount 41 = .ok (.iload_n 0, 1) := by decide +kernel
theorem kd_I_bitCount_42 : decode kb_I_bitCount 42 = .ok (.iload_n 0, 1) := by decide +kernel
theorem kd_I_bitCount_43 : decode kb_I_bitCount 43 = .ok (.bipush 16, 2) := by decide +kernel
theorem kd_I_bitCount_45 : decode kb_I_bitCount 45 = .ok (.iushr, 1) := by decide +kernel
theorem kd_I_bitCount_46 : decode kb_I_bitCount 46 = .ok (.iadd, 1) := by decide +kernel
theorem kd_I_bitCount_47 : decode kb_I_bitCount 47 = .ok (.istore_n 0, 1) := by decide +kernel
theorem kd_I_bitCount_48 : decode kb_I_bitCount 48 = .ok (.iload_n 0, 1) := by decide +kernel
theorem kd_I_bitCount_49 : decode kb_I_bitCount 49 = .ok (.bipush 63, 2) := by decide +kernel
theorem kd_I_bitCount_51 : decode kb_I_bitCount 51 = .ok (.iand, 1) := by decide +kernel
theorem kd_I_bitCount_52 : decode kb_I_bitCount 52 = .ok (.ireturn, 1) := by decide +kernel
theorem kd_Y_areBits_0 : decode kb_Y_areBits 0 = .ok (.iload_n 0, 1) := by decide +kernel
theorem kd_Y_areBits_1 : decode kb_Y_areBits 1 = .ok (.ifCond .lt 13, 3) := by decide +kernel
theorem kd_Y_areBits_4 : decode kb_Y_areBits 4 = .ok (.iload_n 0, 1) := by decide +kernel
theorem kd_Y_areBits_5 : decode kb_Y_areBits 5 = .ok (.bipush 6, 2) := by decide +kernel
theorem kd_Y_areBits_7 : decode kb_Y_areBits 7 = .ok (.if_icmp .gt 7, 3) := by decide +kernel
theorem kd_Y_areBits_10 : decode kb_Y_areBits 10 = .ok (.iconst 1, 1) := by decide +kernel
theorem kd_Y_areBits_11 : decode kb_Y_areBits 11 = .ok (.goto 4, 3) := by decide +kernel
theorem kd_Y_areBits_14 : decode kb_Y_areBits 14 = .ok (.iconst 0, 1) := by decide +kernel
theorem kd_Y_areBits_15 : decode kb_Y_areBits 15 = .ok (.ireturn, 1) := by decide +kernel
theorem kd_C_init_0 : decode kb_C_init 0 = .ok (.aload_n 0, 1) := by decide +kernel
theorem kd_C_init_1 : decode kb_C_init 1 = .ok (.invokespecial 3, 3) := by decide +kernel
theorem kd_C_init_4 : decode kb_C_init 4 = .ok (.aload_n 0, 1) := by decide +kernel
theorem kd_C_init_5 : decode kb_C_init 5 = .ok (.sipush 128, 3) := by decide +kernel
theorem kd_C_init_8 : decode kb_C_init 8 = .ok (.newarray .int, 2) := by decide +kernel
theorem kd_C_init_10 : decode kb_C_init 10 = .ok (.putfield 9, 3) := by decide +kernel
theorem kd_C_init_13 : decode kb_C_init 13 = .ok (.aload_n 0, 1) := by decide +kernel
theorem kd_C_init_14 : decode kb_C_init 14 = .ok (.sipush 128, 3) := by decide +kernel
theorem kd_C_init_17 : decode kb_C_init 17 = .ok (.newarray .boolean, 2) := by decide +kernel
theorem kd_C_init_19 : decode kb_C_init 19 = .ok (.putfield 15, 3) := by decide +kernel
theorem kd_C_init_22 : decode kb_C_init 22 = .ok (.aload_n 0, 1) := by decide +kernel
theorem kd_C_init_23 : decode kb_C_init 23 = .ok (.sipush 128, 3) := by decide +kernel
theorem kd_C_init_26 : decode kb_C_init 26 = .ok (.newarray .int, 2) := by decide +kernel
theorem kd_C_init_28 : decode kb_C_init 28 = .ok (.putfield 19, 3) := by decide +kernel
theorem kd_C_init_31 : decode kb_C_init 31 = .ok (.aload_n 0, 1) := by decide +kernel
theorem kd_C_init_32 : decode kb_C_init 32 = .ok (.bipush 16, 2) := by decide +kernel
theorem kd_C_init_34 : decode kb_C_init 34 = .ok (.newarray .int, 2) := by decide +kernel
theorem kd_C_init_36 : decode kb_C_init 36 = .ok (.putfield 22, 3) := by decide +kernel
theorem kd_C_init_39 : decode kb_C_init 39 = .ok (.return_, 1) := by decide +kernel
theorem kd_C_become_0 : decode kb_C_become 0 = .ok (.aload_n 0, 1) := by decide +kernel
theorem kd_C_become_1 : decode kb_C_become 1 = .ok (.iload_n 1, 1) := by decide +kernel
theorem kd_C_become_2 : decode kb_C_become 2 = .ok (.putfield 25, 3) := by decide +kernel
theorem kd_C_become_5 : decode kb_C_become 5 = .ok (.aload_n 0, 1) := by decide +kernel
theorem kd_C_become_6 : decode kb_C_become 6 = .ok (.iload_n 2, 1) := by decide +kernel
theorem kd_C_become_7 : decode kb_C_become 7 = .ok (.putfield 29, 3) := by decide +kernel
theorem kd_C_become_10 : decode kb_C_become 10 = .ok (.aload_n 0, 1) := by decide +kernel
theorem kd_C_become_11 : decode kb_C_become 11 = .ok (.iload_n 3, 1) := by decide +kernel
theorem kd_C_become_12 : decode kb_C_become 12 = .ok (.putfield 32, 3) := by decide +kernel
theorem kd_C_become_15 : decode kb_C_become 15 = .ok (.aload_n 0, 1) := by decide +kernel
theorem kd_C_become_16 : decode kb_C_become 16 = .ok (.iload 4, 2) := by decide +kernel
theorem kd_C_become_18 : decode kb_C_become 18 = .ok (.putfield 35, 3) := by decide +kernel
theorem kd_C_become_21 : decode kb_C_become 21 = .ok (.aload_n 0, 1) := by decide +kernel
theorem kd_C_become_22 : decode kb_C_become 22 = .ok (.iconst 0, 1) := by decide +kernel
theorem kd_C_become_23 : decode kb_C_become 23 = .ok (.putfield 38, 3) := by decide +kernel
theorem kd_C_become_26 : decode kb_C_become 26 = .ok (.aload_n 0, 1) := by decide +kernel
theorem kd_C_become_27 : decode kb_C_become 27 = .ok (.iconst 0, 1) := by decide +kernel
theorem kd_C_become_28 : decode kb_C_become 28 = .ok (.putfield 41, 3) := by decide +kernel
theorem kd_C_become_31 : decode kb_C_become 31 = .ok (.aload_n 0, 1) := by decide +kernel
theorem kd_C_become_32 : decode kb_C_become 32 = .ok (.iconst 0, 1) := by decide +kernel
theorem kd_C_become_33 : decode kb_C_become 33 = .ok (.putfield 44, 3) := by decide +kernel
theorem kd_C_become_36 : decode kb_C_become 36 = .ok (.aload_n 0, 1) := by decide +kernel
theorem kd_C_become_37 : decode kb_C_become 37 = .ok (.iconst 0, 1) := by decide +kernel
theorem kd_C_become_38 : decode kb_C_become 38 = .ok (.putfield 47, 3) := by decide +kernel
theorem kd_C_become_41 : decode kb_C_become 41 = .ok (.aload_n 0, 1) := by decide +kernel
theorem kd_C_become_42 : decode kb_C_become 42 = .ok (.invokevirtual 50, 3) := by decide +kernel
theorem kd_C_become_45 : decode kb_C_become 45 = .ok (.return_, 1) := by decide +kernel
theorem kd_C_emptyAll_0 : decode kb_C_emptyAll 0 = .ok (.iconst 0, 1) := by decide +kernel
theorem kd_C_emptyAll_1 : decode kb_C_emptyAll 1 = .ok (.istore_n 1, 1) := by decide +kernel
theorem kd_C_emptyAll_2 : decode kb_C_emptyAll 2 = .ok (.iload_n 1, 1) := by decide +kernel
theorem kd_C_emptyAll_3 : decode kb_C_emptyAll 3 = .ok (.aload_n 0, 1) := by decide +kernel
theorem kd_C_emptyAll_4 : decode kb_C_emptyAll 4 = .ok (.getfield 9, 3) := by decide +kernel
theorem kd_C_emptyAll_7 : decode kb_C_emptyAll 7 = .ok (.arraylength, 1) := by decide +kernel
theorem kd_C_emptyAll_8 : decode kb_C_emptyAll 8 = .ok (.if_icmp .ge 30, 3) := by decide +kernel
theorem kd_C_emptyAll_11 : decode kb_C_emptyAll 11 = .ok (.aload_n 0, 1) := by decide +kernel
theorem kd_C_emptyAll_12 : decode kb_C_emptyAll 12 = .ok (.getfield 9, 3) := by decide +kernel
theorem kd_C_emptyAll_15 : decode kb_C_emptyAll 15 = .ok (.iload_n 1, 1) := by decide +kernel
theorem kd_C_emptyAll_16 : decode kb_C_emptyAll 16 = .ok (.iconst (-1), 1) := by decide +kernel
theorem kd_C_emptyAll_17 : decode kb_C_emptyAll 17 = .ok (.iastore, 1) := by decide +kernel
theorem kd_C_emptyAll_18 : decode kb_C_emptyAll 18 = .ok (.aload_n 0, 1) := by decide +kernel
theorem kd_C_emptyAll_19 : decode kb_C_emptyAll 19 = .ok (.getfield 15, 3) := by decide +kernel
theorem kd_C_emptyAll_22 : decode kb_C_emptyAll 22 = .ok (.iload_n 1, 1) := by decide +kernel
theorem kd_C_emptyAll_23 : decode kb_C_emptyAll 23 = .ok (.iconst 0, 1) := by decide +kernel
theorem kd_C_emptyAll_24 : decode kb_C_emptyAll 24 = .ok (.bastore, 1) := by decide +kernel
theorem kd_C_emptyAll_25 : decode kb_C_emptyAll 25 = .ok (.aload_n 0, 1) := by decide +kernel
theorem kd_C_emptyAll_26 : decode kb_C_emptyAll 26 = .ok (.getfield 19, 3) := by decide +kernel
theorem kd_C_emptyAll_29 : decode kb_C_emptyAll 29 = .ok (.iload_n 1, 1) := by decide +kernel
theorem kd_C_emptyAll_30 : decode kb_C_emptyAll 30 = .ok (.iconst 0, 1) := by decide +kernel
theorem kd_C_emptyAll_31 : decode kb_C_emptyAll 31 = .ok (.iastore, 1) := by decide +kernel
theorem kd_C_emptyAll_32 : decode kb_C_emptyAll 32 = .ok (.iinc 1 1, 3) := by decide +kernel
theorem kd_C_emptyAll_35 : decode kb_C_emptyAll 35 = .ok (.goto (-33), 3) := by decide +kernel
theorem kd_C_emptyAll_38 : decode kb_C_emptyAll 38 = .ok (.iconst 0, 1) := by decide +kernel
theorem kd_C_emptyAll_39 : decode kb_C_emptyAll 39 = .ok (.istore_n 1, 1) := by decide +kernel
theorem kd_C_emptyAll_40 : decode kb_C_emptyAll 40 = .ok (.iload_n 1, 1) := by decide +kernel
theorem kd_C_emptyAll_41 : decode kb_C_emptyAll 41 = .ok (.aload_n 0, 1) := by decide +kernel
theorem kd_C_emptyAll_42 : decode kb_C_emptyAll 42 = .ok (.getfield 22, 3) := by decide +kernel
theorem kd_C_emptyAll_45 : decode kb_C_emptyAll 45 = .ok (.arraylength, 1) := by decide +kernel
theorem kd_C_emptyAll_46 : decode kb_C_emptyAll 46 = .ok (.if_icmp .ge 16, 3) := by decide +kernel
theorem kd_C_emptyAll_49 : decode kb_C_emptyAll 49 = .ok (.aload_n 0, 1) := by decide +kernel
theorem kd_C_emptyAll_50 : decode kb_C_emptyAll 50 = .ok (.getfield 22, 3) := by decide +kernel
theorem kd_C_emptyAll_53 : decode kb_C_emptyAll 53 = .ok (.iload_n 1, 1) := by decide +kernel
theorem kd_C_emptyAll_54 : decode kb_C_emptyAll 54 = .ok (.iconst 0, 1) := by decide +kernel
theorem kd_C_emptyAll_55 : decode kb_C_emptyAll 55 = .ok (.iastore, 1) := by decide +kernel
theorem kd_C_emptyAll_56 : decode kb_C_emptyAll 56 = .ok (.iinc 1 1, 3) := by decide +kernel
theorem kd_C_emptyAll_59 : decode kb_C_emptyAll 59 = .ok (.goto (-19), 3) := by decide +kernel
theorem kd_C_emptyAll_62 : decode kb_C_emptyAll 62 = .ok (.return_, 1) := by decide +kernel
theorem kd_Y_access_0 : decode kb_Y_access 0 = .ok (.iload_n 1, 1) := by decide +kernel
theorem kd_Y_access_1 : decode kb_Y_access 1 = .ok (.ifCond .lt 10, 3) := by decide +kernel
theorem kd_Y_access_4 : decode kb_Y_access 4 = .ok (.iload_n 1, 1) := by decide +kernel
theorem kd_Y_access_5 : decode kb_Y_access 5 = .ok (.sipush 4096, 3) := by decide +kernel
theorem kd_Y_access_8 : decode kb_Y_access 8 = .ok (.if_icmp .lt 13, 3) := by decide +kernel
theorem kd_Y_access_11 : decode kb_Y_access 11 = .ok (.new 22, 3) := by decide +kernel
theorem kd_Y_access_14 : decode kb_Y_access 14 = .ok (.dup, 1) := by decide +kernel
theorem kd_Y_access_15 : decode kb_Y_access 15 = .ok (.ldc 54, 2) := by decide +kernel
theorem kd_Y_access_17 : decode kb_Y_access 17 = .ok (.invokespecial 26, 3) := by decide +kernel
theorem kd_Y_access_20 : decode kb_Y_access 20 = .ok (.athrow, 1) := by decide +kernel
theorem kd_Y_access_21 : decode kb_Y_access 21 = .ok (.aload_n 0, 1) := by decide +kernel
theorem kd_Y_access_22 : decode kb_Y_access 22 = .ok (.getfield 18, 3) := by decide +kernel
theorem kd_Y_access_25 : decode kb_Y_access 25 = .ok (.invokevirtual 56, 3) := by decide +kernel
theorem kd_Y_access_28 : decode kb_Y_access 28 = .ok (.istore_n 3, 1) := by decide +kernel
theorem kd_Y_access_29 : decode kb_Y_access 29 = .ok (.iload_n 3, 1) := by decide +kernel
theorem kd_Y_access_30 : decode kb_Y_access 30 = .ok (.sipush 400, 3) := by decide +kernel
theorem kd_Y_access_33 : decode kb_Y_access 33 = .ok (.if_icmp .lt 13, 3) := by decide +kernel
theorem kd_Y_access_36 : decode kb_Y_access 36 = .ok (.new 60, 3) := by decide +kernel
theorem kd_Y_access_39 : decode kb_Y_access 39 = .ok (.dup, 1) := by decide +kernel
theorem kd_Y_access_40 : decode kb_Y_access 40 = .ok (.ldc 62, 2) := by decide +kernel
theorem kd_Y_access_42 : decode kb_Y_access 42 = .ok (.invokespecial 64, 3) := by decide +kernel
theorem kd_Y_access_45 : decode kb_Y_access 45 = .ok (.athrow, 1) := by decide +kernel
theorem kd_Y_access_46 : decode kb_Y_access 46 = .ok (.aload_n 0, 1) := by decide +kernel
theorem kd_Y_access_47 : decode kb_Y_access 47 = .ok (.getfield 18, 3) := by decide +kernel
theorem kd_Y_access_50 : decode kb_Y_access 50 = .ok (.iload_n 1, 1) := by decide +kernel
theorem kd_Y_access_51 : decode kb_Y_access 51 = .ok (.invokevirtual 65, 3) := by decide +kernel
theorem kd_Y_access_54 : decode kb_Y_access 54 = .ok (.iconst 0, 1) := by decide +kernel
theorem kd_Y_access_55 : decode kb_Y_access 55 = .ok (.istore 4, 2) := by decide +kernel
theorem kd_Y_access_57 : decode kb_Y_access 57 = .ok (.iconst 0, 1) := by decide +kernel
theorem kd_Y_access_58 : decode kb_Y_access 58 = .ok (.istore 5, 2) := by decide +kernel
theorem kd_Y_access_60 : decode kb_Y_access 60 = .ok (.iload 5, 2) := by decide +kernel
theorem kd_Y_access_62 : decode kb_Y_access 62 = .ok (.iconst 4, 1) := by decide +kernel
theorem kd_Y_access_63 : decode kb_Y_access 63 = .ok (.if_icmp .ge 43, 3) := by decide +kernel
theorem kd_Y_access_66 : decode kb_Y_access 66 = .ok (.aload_n 0, 1) := by decide +kernel
theorem kd_Y_access_67 : decode kb_Y_access 67 = .ok (.getfield 11, 3) := by decide +kernel
theorem kd_Y_access_70 : decode kb_Y_access 70 = .ok (.iload 5, 2) := by decide +kernel
theorem kd_Y_access_72 : decode kb_Y_access 72 = .ok (.aaload, 1) := by decide +kernel
theorem kd_Y_access_73 : decode kb_Y_access 73 = .ok (.astore 6, 2) := by decide +kernel
theorem kd_Y_access_75 : decode kb_Y_access 75 = .ok (.aload 6, 2) := by decide +kernel
theorem kd_Y_access_77 : decode kb_Y_access 77 = .ok (.ifnull 23, 3) := by decide +kernel
theorem kd_Y_access_80 : decode kb_Y_access 80 = .ok (.aload 6, 2) := by decide +kernel
theorem kd_Y_access_82 : decode kb_Y_access 82 = .ok (.iload_n 1, 1) := by decide +kernel
theorem kd_Y_access_83 : decode kb_Y_access 83 = .ok (.iload_n 2, 1) := by decide +kernel
theorem kd_Y_access_84 : decode kb_Y_access 84 = .ok (.iload_n 3, 1) := by decide +kernel
theorem kd_Y_access_85 : decode kb_Y_access 85 = .ok (.invokevirtual 69, 3) := by decide +kernel
theorem kd_Y_access_88 : decode kb_Y_access 88 = .ok (.ifCond .eq 12, 3) := by decide +kernel
theorem kd_Y_access_91 : decode kb_Y_access 91 = .ok (.iload 4, 2) := by decide +kernel
theorem kd_Y_access_93 : decode kb_Y_access 93 = .ok (.iconst 1, 1) := by decide +kernel
theorem kd_Y_access_94 : decode kb_Y_access 94 = .ok (.iload 5, 2) := by decide +kernel
theorem kd_Y_access_96 : decode kb_Y_access 96 = .ok (.ishl, 1) := by decide +kernel
theorem kd_Y_access_97 : decode kb_Y_access 97 = .ok (.ior, 1) := by decide +kernel
theorem kd_Y_access_98 : decode kb_Y_access 98 = .ok (.istore 4, 2) := by decide +kernel
theorem kd_Y_access_100 : decode kb_Y_access 100 = .ok (.iinc 5 1, 3) := by decide +kernel
theorem kd_Y_access_103 : decode kb_Y_access 103 = .ok (.goto (-43), 3) := by decide +kernel
theorem kd_Y_access_106 : decode kb_Y_access 106 = .ok (.iload 4, 2) := by decide +kernel
theorem kd_Y_access_108 : decode kb_Y_access 108 = .ok (.ireturn, 1) := by decide +kernel
theorem kd_W_keep_0 : decode kb_W_keep 0 = .ok (.aload_n 0, 1) := by decide +kernel
theorem kd_W_keep_1 : decode kb_W_keep 1 = .ok (.getfield 24, 3) := by decide +kernel
theorem kd_W_keep_4 : decode kb_W_keep 4 = .ok (.sipush 400, 3) := by decide +kernel
theorem kd_W_keep_7 : decode kb_W_keep 7 = .ok (.if_icmp .ge 23, 3) := by decide +kernel
theorem kd_W_keep_10 : decode kb_W_keep 10 = .ok (.aload_n 0, 1) := by decide +kernel
theorem kd_W_keep_11 : decode kb_W_keep 11 = .ok (.getfield 9, 3) := by decide +kernel
theorem kd_W_keep_14 : decode kb_W_keep 14 = .ok (.aload_n 0, 1) := by decide +kernel
theorem kd_W_keep_15 : decode kb_W_keep 15 = .ok (.getfield 24, 3) := by decide +kernel
theorem kd_W_keep_18 : decode kb_W_keep 18 = .ok (.iload_n 1, 1) := by decide +kernel
theorem kd_W_keep_19 : decode kb_W_keep 19 = .ok (.iastore, 1) := by decide +kernel
theorem kd_W_keep_20 : decode kb_W_keep 20 = .ok (.aload_n 0, 1) := by decide +kernel
theorem kd_W_keep_21 : decode kb_W_keep 21 = .ok (.dup, 1) := by decide +kernel
theorem kd_W_keep_22 : decode kb_W_keep 22 = .ok (.getfield 24, 3) := by decide +kernel
theorem kd_W_keep_25 : decode kb_W_keep 25 = .ok (.iconst 1, 1) := by decide +kernel
theorem kd_W_keep_26 : decode kb_W_keep 26 = .ok (.iadd, 1) := by decide +kernel
theorem kd_W_keep_27 : decode kb_W_keep 27 = .ok (.putfield 24, 3) := by decide +kernel
theorem kd_W_keep_30 : decode kb_W_keep 30 = .ok (.return_, 1) := by decide +kernel
theorem kd_C_sees_0 : decode kb_C_sees 0 = .ok (.iload_n 1, 1) := by decide +kernel
theorem kd_C_sees_1 : decode kb_C_sees 1 = .ok (.aload_n 0, 1) := by decide +kernel
theorem kd_C_sees_2 : decode kb_C_sees 2 = .ok (.getfield 35, 3) := by decide +kernel
theorem kd_C_sees_5 : decode kb_C_sees 5 = .ok (.ishr, 1) := by decide +kernel
theorem kd_C_sees_6 : decode kb_C_sees 6 = .ok (.istore 4, 2) := by decide +kernel
theorem kd_C_sees_8 : decode kb_C_sees 8 = .ok (.iload 4, 2) := by decide +kernel
theorem kd_C_sees_10 : decode kb_C_sees 10 = .ok (.aload_n 0, 1) := by decide +kernel
theorem kd_C_sees_11 : decode kb_C_sees 11 = .ok (.invokevirtual 53, 3) := by decide +kernel
theorem kd_C_sees_14 : decode kb_C_sees 14 = .ok (.iconst 1, 1) := by decide +kernel
theorem kd_C_sees_15 : decode kb_C_sees 15 = .ok (.isub, 1) := by decide +kernel
theorem kd_C_sees_16 : decode kb_C_sees 16 = .ok (.iand, 1) := by decide +kernel
theorem kd_C_sees_17 : decode kb_C_sees 17 = .ok (.istore 5, 2) := by decide +kernel
theorem kd_C_sees_19 : decode kb_C_sees 19 = .ok (.aload_n 0, 1) := by decide +kernel
theorem kd_C_sees_20 : decode kb_C_sees 20 = .ok (.iload 5, 2) := by decide +kernel
theorem kd_C_sees_22 : decode kb_C_sees 22 = .ok (.iload 4, 2) := by decide +kernel
theorem kd_C_sees_24 : decode kb_C_sees 24 = .ok (.invokevirtual 57, 3) := by decide +kernel
theorem kd_C_sees_27 : decode kb_C_sees 27 = .ok (.istore 6, 2) := by decide +kernel
theorem kd_C_sees_29 : decode kb_C_sees 29 = .ok (.iload 6, 2) := by decide +kernel
theorem kd_C_sees_31 : decode kb_C_sees 31 = .ok (.iconst (-1), 1) := by decide +kernel
theorem kd_C_sees_32 : decode kb_C_sees 32 = .ok (.if_icmp .eq 7, 3) := by decide +kernel
theorem kd_C_sees_35 : decode kb_C_sees 35 = .ok (.iconst 1, 1) := by decide +kernel
theorem kd_C_sees_36 : decode kb_C_sees 36 = .ok (.goto 4, 3) := by decide +kernel
theorem kd_C_sees_39 : decode kb_C_sees 39 = .ok (.iconst 0, 1) := by decide +kernel
theorem kd_C_sees_40 : decode kb_C_sees 40 = .ok (.istore 7, 2) := by decide +kernel
theorem kd_C_sees_42 : decode kb_C_sees 42 = .ok (.iload 7, 2) := by decide +kernel
theorem kd_C_sees_44 : decode kb_C_sees 44 = .ok (.ifCond .eq 16, 3) := by decide +kernel
theorem kd_C_sees_47 : decode kb_C_sees 47 = .ok (.aload_n 0, 1) := by decide +kernel
theorem kd_C_sees_48 : decode kb_C_sees 48 = .ok (.dup, 1) := by decide +kernel
theorem kd_C_sees_49 : decode kb_C_sees 49 = .ok (.getfield 38, 3) := by decide +kernel
theorem kd_C_sees_52 : decode kb_C_sees 52 = .ok (.iconst 1, 1) := by decide +kernel
theorem kd_C_sees_53 : decode kb_C_sees 53 = .ok (.iadd, 1) := by decide +kernel
theorem kd_C_sees_54 : decode kb_C_sees 54 = .ok (.putfield 38, 3) := by decide +kernel
theorem kd_C_sees_57 : decode kb_C_sees 57 = .ok (.goto 23, 3) := by decide +kernel
theorem kd_C_sees_60 : decode kb_C_sees 60 = .ok (.aload_n 0, 1) := by decide +kernel
theorem kd_C_sees_61 : decode kb_C_sees 61 = .ok (.dup, 1) := by decide +kernel
theorem kd_C_sees_62 : decode kb_C_sees 62 = .ok (.getfield 41, 3) := by decide +kernel
theorem kd_C_sees_65 : decode kb_C_sees 65 = .ok (.iconst 1, 1) := by decide +kernel
theorem kd_C_sees_66 : decode kb_C_sees 66 = .ok (.iadd, 1) := by decide +kernel
theorem kd_C_sees_67 : decode kb_C_sees 67 = .ok (.putfield 41, 3) := by decide +kernel
theorem kd_C_sees_70 : decode kb_C_sees 70 = .ok (.aload_n 0, 1) := by decide +kernel
theorem kd_C_sees_71 : decode kb_C_sees 71 = .ok (.iload 5, 2) := by decide +kernel
theorem kd_C_sees_73 : decode kb_C_sees 73 = .ok (.iload 4, 2) := by decide +kernel
theorem kd_C_sees_75 : decode kb_C_sees 75 = .ok (.invokevirtual 61, 3) := by decide +kernel
theorem kd_C_sees_78 : decode kb_C_sees 78 = .ok (.istore 6, 2) := by decide +kernel
theorem kd_C_sees_80 : decode kb_C_sees 80 = .ok (.aload_n 0, 1) := by decide +kernel
theorem kd_C_sees_81 : decode kb_C_sees 81 = .ok (.iload 5, 2) := by decide +kernel
theorem kd_C_sees_83 : decode kb_C_sees 83 = .ok (.iload 6, 2) := by decide +kernel
theorem kd_C_sees_85 : decode kb_C_sees 85 = .ok (.invokevirtual 64, 3) := by decide +kernel
theorem kd_C_sees_88 : decode kb_C_sees 88 = .ok (.istore 8, 2) := by decide +kernel
theorem kd_C_sees_90 : decode kb_C_sees 90 = .ok (.iload_n 2, 1) := by decide +kernel
theorem kd_C_sees_91 : decode kb_C_sees 91 = .ok (.ifCond .eq 11, 3) := by decide +kernel
theorem kd_C_sees_94 : decode kb_C_sees 94 = .ok (.aload_n 0, 1) := by decide +kernel
theorem kd_C_sees_95 : decode kb_C_sees 95 = .ok (.getfield 15, 3) := by decide +kernel
theorem kd_C_sees_98 : decode kb_C_sees 98 = .ok (.iload 8, 2) := by decide +kernel
theorem kd_C_sees_100 : decode kb_C_sees 100 = .ok (.iconst 1, 1) := by decide +kernel
theorem kd_C_sees_101 : decode kb_C_sees 101 = .ok (.bastore, 1) := by decide +kernel
theorem kd_C_sees_102 : decode kb_C_sees 102 = .ok (.iload 7, 2) := by decide +kernel
theorem kd_C_sees_104 : decode kb_C_sees 104 = .ok (.ifCond .eq 11, 3) := by decide +kernel
theorem kd_C_sees_107 : decode kb_C_sees 107 = .ok (.aload_n 0, 1) := by decide +kernel
theorem kd_C_sees_108 : decode kb_C_sees 108 = .ok (.getfield 32, 3) := by decide +kernel
theorem kd_C_sees_111 : decode kb_C_sees 111 = .ok (.iconst 1, 1) := by decide +kernel
theorem kd_C_sees_112 : decode kb_C_sees 112 = .ok (.if_icmp .eq 11, 3) := by decide +kernel
theorem kd_C_sees_115 : decode kb_C_sees 115 = .ok (.aload_n 0, 1) := by decide +kernel
theorem kd_C_sees_116 : decode kb_C_sees 116 = .ok (.getfield 19, 3) := by decide +kernel
theorem kd_C_sees_119 : decode kb_C_sees 119 = .ok (.iload 8, 2) := by decide +kernel
theorem kd_C_sees_121 : decode kb_C_sees 121 = .ok (.iload_n 3, 1) := by decide +kernel
theorem kd_C_sees_122 : decode kb_C_sees 122 = .ok (.iastore, 1) := by decide +kernel
theorem kd_C_sees_123 : decode kb_C_sees 123 = .ok (.aload_n 0, 1) := by decide +kernel
theorem kd_C_sees_124 : decode kb_C_sees 124 = .ok (.getfield 32, 3) := by decide +kernel
theorem kd_C_sees_127 : decode kb_C_sees 127 = .ok (.iconst 2, 1) := by decide +kernel
theorem kd_C_sees_128 : decode kb_C_sees 128 = .ok (.if_icmp .ne 11, 3) := by decide +kernel
theorem kd_C_sees_131 : decode kb_C_sees 131 = .ok (.aload_n 0, 1) := by decide +kernel
theorem kd_C_sees_132 : decode kb_C_sees 132 = .ok (.iload 5, 2) := by decide +kernel
theorem kd_C_sees_134 : decode kb_C_sees 134 = .ok (.iload 6, 2) := by decide +kernel
theorem kd_C_sees_136 : decode kb_C_sees 136 = .ok (.invokevirtual 67, 3) := by decide +kernel
theorem kd_C_sees_139 : decode kb_C_sees 139 = .ok (.iload 7, 2) := by decide +kernel
theorem kd_C_sees_141 : decode kb_C_sees 141 = .ok (.ireturn, 1) := by decide +kernel
theorem kd_C_countSets_0 : decode kb_C_countSets 0 = .ok (.iconst 1, 1) := by decide +kernel
theorem kd_C_countSets_1 : decode kb_C_countSets 1 = .ok (.aload_n 0, 1) := by decide +kernel
theorem kd_C_countSets_2 : decode kb_C_countSets 2 = .ok (.getfield 25, 3) := by decide +kernel
theorem kd_C_countSets_5 : decode kb_C_countSets 5 = .ok (.ishl, 1) := by decide +kernel
theorem kd_C_countSets_6 : decode kb_C_countSets 6 = .ok (.ireturn, 1) := by decide +kernel
theorem kd_C_findPlace_0 : decode kb_C_findPlace 0 = .ok (.iconst 0, 1) := by decide +kernel
theorem kd_C_findPlace_1 : decode kb_C_findPlace 1 = .ok (.istore_n 3, 1) := by decide +kernel
theorem kd_C_findPlace_2 : decode kb_C_findPlace 2 = .ok (.iload_n 3, 1) := by decide +kernel
theorem kd_C_findPlace_3 : decode kb_C_findPlace 3 = .ok (.aload_n 0, 1) := by decide +kernel
theorem kd_C_findPlace_4 : decode kb_C_findPlace 4 = .ok (.getfield 29, 3) := by decide +kernel
theorem kd_C_findPlace_7 : decode kb_C_findPlace 7 = .ok (.if_icmp .ge 21, 3) := by decide +kernel
theorem kd_C_findPlace_10 : decode kb_C_findPlace 10 = .ok (.aload_n 0, 1) := by decide +kernel
theorem kd_C_findPlace_11 : decode kb_C_findPlace 11 = .ok (.iload_n 1, 1) := by decide +kernel
theorem kd_C_findPlace_12 : decode kb_C_findPlace 12 = .ok (.iload_n 3, 1) := by decide +kernel
theorem kd_C_findPlace_13 : decode kb_C_findPlace 13 = .ok (.invokevirtual 74, 3) := by decide +kernel
theorem kd_C_findPlace_16 : decode kb_C_findPlace 16 = .ok (.iload_n 2, 1) := by decide +kernel
theorem kd_C_findPlace_17 : decode kb_C_findPlace 17 = .ok (.if_icmp .ne 5, 3) := by decide +kernel
theorem kd_C_findPlace_20 : decode kb_C_findPlace 20 = .ok (.iload_n 3, 1) := by decide +kernel
theorem kd_C_findPlace_21 : decode kb_C_findPlace 21 = .ok (.ireturn, 1) := by decide +kernel
theorem kd_C_findPlace_22 : decode kb_C_findPlace 22 = .ok (.iinc 3 1, 3) := by decide +kernel
theorem kd_C_findPlace_25 : decode kb_C_findPlace 25 = .ok (.goto (-23), 3) := by decide +kernel
theorem kd_C_findPlace_28 : decode kb_C_findPlace 28 = .ok (.iconst (-1), 1) := by decide +kernel
theorem kd_C_findPlace_29 : decode kb_C_findPlace 29 = .ok (.ireturn, 1) := by decide +kernel
theorem kd_C_blockAt_0 : decode kb_C_blockAt 0 = .ok (.aload_n 0, 1) := by decide +kernel
theorem kd_C_blockAt_1 : decode kb_C_blockAt 1 = .ok (.getfield 9, 3) := by decide +kernel
theorem kd_C_blockAt_4 : decode kb_C_blockAt 4 = .ok (.aload_n 0, 1) := by decide +kernel
theorem kd_C_blockAt_5 : decode kb_C_blockAt 5 = .ok (.iload_n 1, 1) := by decide +kernel
theorem kd_C_blockAt_6 : decode kb_C_blockAt 6 = .ok (.iload_n 2, 1) := by decide +kernel
theorem kd_C_blockAt_7 : decode kb_C_blockAt 7 = .ok (.invokevirtual 64, 3) := by decide +kernel
theorem kd_C_blockAt_10 : decode kb_C_blockAt 10 = .ok (.iaload, 1) := by decide +kernel
theorem kd_C_blockAt_11 : decode kb_C_blockAt 11 = .ok (.ireturn, 1) := by decide +kernel
theorem kd_C_slotOf_0 : decode kb_C_slotOf 0 = .ok (.iload_n 1, 1) := by decide +kernel
theorem kd_C_slotOf_1 : decode kb_C_slotOf 1 = .ok (.aload_n 0, 1) := by decide +kernel
theorem kd_C_slotOf_2 : decode kb_C_slotOf 2 = .ok (.getfield 29, 3) := by decide +kernel
theorem kd_C_slotOf_5 : decode kb_C_slotOf 5 = .ok (.imul, 1) := by decide +kernel
theorem kd_C_slotOf_6 : decode kb_C_slotOf 6 = .ok (.iload_n 2, 1) := by decide +kernel
theorem kd_C_slotOf_7 : decode kb_C_slotOf 7 = .ok (.iadd, 1) := by decide +kernel
theorem kd_C_slotOf_8 : decode kb_C_slotOf 8 = .ok (.ireturn, 1) := by decide +kernel
theorem kd_C_bringIn_0 : decode kb_C_bringIn 0 = .ok (.aload_n 0, 1) := by decide +kernel
theorem kd_C_bringIn_1 : decode kb_C_bringIn 1 = .ok (.iload_n 1, 1) := by decide +kernel
theorem kd_C_bringIn_2 : decode kb_C_bringIn 2 = .ok (.iconst (-1), 1) := by decide +kernel
theorem kd_C_bringIn_3 : decode kb_C_bringIn 3 = .ok (.invokevirtual 57, 3) := by decide +kernel
theorem kd_C_bringIn_6 : decode kb_C_bringIn 6 = .ok (.istore_n 3, 1) := by decide +kernel
theorem kd_C_bringIn_7 : decode kb_C_bringIn 7 = .ok (.iload_n 3, 1) := by decide +kernel
theorem kd_C_bringIn_8 : decode kb_C_bringIn 8 = .ok (.iconst (-1), 1) := by decide +kernel
theorem kd_C_bringIn_9 : decode kb_C_bringIn 9 = .ok (.if_icmp .ne 54, 3) := by decide +kernel
theorem kd_C_bringIn_12 : decode kb_C_bringIn 12 = .ok (.aload_n 0, 1) := by decide +kernel
theorem kd_C_bringIn_13 : decode kb_C_bringIn 13 = .ok (.getfield 32, 3) := by decide +kernel
theorem kd_C_bringIn_16 : decode kb_C_bringIn 16 = .ok (.iconst 2, 1) := by decide +kernel
theorem kd_C_bringIn_17 : decode kb_C_bringIn 17 = .ok (.if_icmp .ne 11, 3) := by decide +kernel
theorem kd_C_bringIn_20 : decode kb_C_bringIn 20 = .ok (.aload_n 0, 1) := by decide +kernel
theorem kd_C_bringIn_21 : decode kb_C_bringIn 21 = .ok (.iload_n 1, 1) := by decide +kernel
theorem kd_C_bringIn_22 : decode kb_C_bringIn 22 = .ok (.invokevirtual 77, 3) := by decide +kernel
theorem kd_C_bringIn_25 : decode kb_C_bringIn 25 = .ok (.goto 8, 3) := by decide +kernel
theorem kd_C_bringIn_28 : decode kb_C_bringIn 28 = .ok (.aload_n 0, 1) := by decide +kernel
theorem kd_C_bringIn_29 : decode kb_C_bringIn 29 = .ok (.iload_n 1, 1) := by decide +kernel
theorem kd_C_bringIn_30 : decode kb_C_bringIn 30 = .ok (.invokevirtual 81, 3) := by decide +kernel
theorem kd_C_bringIn_33 : decode kb_C_bringIn 33 = .ok (.istore_n 3, 1) := by decide +kernel
theorem kd_C_bringIn_34 : decode kb_C_bringIn 34 = .ok (.aload_n 0, 1) := by decide +kernel
theorem kd_C_bringIn_35 : decode kb_C_bringIn 35 = .ok (.dup, 1) := by decide +kernel
theorem kd_C_bringIn_36 : decode kb_C_bringIn 36 = .ok (.getfield 44, 3) := by decide +kernel
theorem kd_C_bringIn_39 : decode kb_C_bringIn 39 = .ok (.iconst 1, 1) := by decide +kernel
theorem kd_C_bringIn_40 : decode kb_C_bringIn 40 = .ok (.iadd, 1) := by decide +kernel
theorem kd_C_bringIn_41 : decode kb_C_bringIn 41 = .ok (.putfield 44, 3) := by decide +kernel
theorem kd_C_bringIn_44 : decode kb_C_bringIn 44 = .ok (.aload_n 0, 1) := by decide +kernel
theorem kd_C_bringIn_45 : decode kb_C_bringIn 45 = .ok (.iload_n 1, 1) := by decide +kernel
theorem kd_C_bringIn_46 : decode kb_C_bringIn 46 = .ok (.iload_n 3, 1) := by decide +kernel
theorem kd_C_bringIn_47 : decode kb_C_bringIn 47 = .ok (.invokevirtual 84, 3) := by decide +kernel
theorem kd_C_bringIn_50 : decode kb_C_bringIn 50 = .ok (.ifCond .eq 13, 3) := by decide +kernel
theorem kd_C_bringIn_53 : decode kb_C_bringIn 53 = .ok (.aload_n 0, 1) := by decide +kernel
theorem kd_C_bringIn_54 : decode kb_C_bringIn 54 = .ok (.dup, 1) := by decide +kernel
theorem kd_C_bringIn_55 : decode kb_C_bringIn 55 = .ok (.getfield 47, 3) := by decide +kernel
theorem kd_C_bringIn_58 : decode kb_C_bringIn 58 = .ok (.iconst 1, 1) := by decide +kernel
theorem kd_C_bringIn_59 : decode kb_C_bringIn 59 = .ok (.iadd, 1) := by decide +kernel
theorem kd_C_bringIn_60 : decode kb_C_bringIn 60 = .ok (.putfield 47, 3) := by decide +kernel
theorem kd_C_bringIn_63 : decode kb_C_bringIn 63 = .ok (.aload_n 0, 1) := by decide +kernel
theorem kd_C_bringIn_64 : decode kb_C_bringIn 64 = .ok (.iload_n 1, 1) := by decide +kernel
theorem kd_C_bringIn_65 : decode kb_C_bringIn 65 = .ok (.iload_n 3, 1) := by decide +kernel
theorem kd_C_bringIn_66 : decode kb_C_bringIn 66 = .ok (.invokevirtual 64, 3) := by decide +kernel
theorem kd_C_bringIn_69 : decode kb_C_bringIn 69 = .ok (.istore 4, 2) := by decide +kernel
theorem kd_C_bringIn_71 : decode kb_C_bringIn 71 = .ok (.aload_n 0, 1) := by decide +kernel
theorem kd_C_bringIn_72 : decode kb_C_bringIn 72 = .ok (.getfield 9, 3) := by decide +kernel
theorem kd_C_bringIn_75 : decode kb_C_bringIn 75 = .ok (.iload 4, 2) := by decide +kernel
theorem kd_C_bringIn_77 : decode kb_C_bringIn 77 = .ok (.iload_n 2, 1) := by decide +kernel
theorem kd_C_bringIn_78 : decode kb_C_bringIn 78 = .ok (.iastore, 1) := by decide +kernel
theorem kd_C_bringIn_79 : decode kb_C_bringIn 79 = .ok (.aload_n 0, 1) := by decide +kernel
theorem kd_C_bringIn_80 : decode kb_C_bringIn 80 = .ok (.getfield 15, 3) := by decide +kernel
theorem kd_C_bringIn_83 : decode kb_C_bringIn 83 = .ok (.iload 4, 2) := by decide +kernel
theorem kd_C_bringIn_85 : decode kb_C_bringIn 85 = .ok (.iconst 0, 1) := by decide +kernel
theorem kd_C_bringIn_86 : decode kb_C_bringIn 86 = .ok (.bastore, 1) := by decide +kernel
theorem kd_C_bringIn_87 : decode kb_C_bringIn 87 = .ok (.iload_n 3, 1) := by decide +kernel
theorem kd_C_bringIn_88 : decode kb_C_bringIn 88 = .ok (.ireturn, 1) := by decide +kernel
theorem kd_C_pointedPlace_0 : decode kb_C_pointedPlace 0 = .ok (.aload_n 0, 1) := by decide +kernel
theorem kd_C_pointedPlace_1 : decode kb_C_pointedPlace 1 = .ok (.getfield 22, 3) := by decide +kernel
theorem kd_C_pointedPlace_4 : decode kb_C_pointedPlace 4 = .ok (.iload_n 1, 1) := by decide +kernel
theorem kd_C_pointedPlace_5 : decode kb_C_pointedPlace 5 = .ok (.iaload, 1) := by decide +kernel
theorem kd_C_pointedPlace_6 : decode kb_C_pointedPlace 6 = .ok (.istore_n 2, 1) := by decide +kernel
theorem kd_C_pointedPlace_7 : decode kb_C_pointedPlace 7 = .ok (.iconst 1, 1) := by decide +kernel
theorem kd_C_pointedPlace_8 : decode kb_C_pointedPlace 8 = .ok (.istore_n 3, 1) := by decide +kernel
theorem kd_C_pointedPlace_9 : decode kb_C_pointedPlace 9 = .ok (.iconst 0, 1) := by decide +kernel
theorem kd_C_pointedPlace_10 : decode kb_C_pointedPlace 10 = .ok (.istore 4, 2) := by decide +kernel
theorem kd_C_pointedPlace_12 : decode kb_C_pointedPlace 12 = .ok (.aload_n 0, 1) := by decide +kernel
theorem kd_C_pointedPlace_13 : decode kb_C_pointedPlace 13 = .ok (.getfield 29, 3) := by decide +kernel
theorem kd_C_pointedPlace_16 : decode kb_C_pointedPlace 16 = .ok (.iconst 1, 1) := by decide +kernel
theorem kd_C_pointedPlace_17 : decode kb_C_pointedPlace 17 = .ok (.ishr, 1) := by decide +kernel
theorem kd_C_pointedPlace_18 : decode kb_C_pointedPlace 18 = .ok (.istore 5, 2) := by decide +kernel
theorem kd_C_pointedPlace_20 : decode kb_C_pointedPlace 20 = .ok (.iload 5, 2) := by decide +kernel
theorem kd_C_pointedPlace_22 : decode kb_C_pointedPlace 22 = .ok (.ifCond .le 36, 3) := by decide +kernel
theorem kd_C_pointedPlace_25 : decode kb_C_pointedPlace 25 = .ok (.iload_n 2, 1) := by decide +kernel
theorem kd_C_pointedPlace_26 : decode kb_C_pointedPlace 26 = .ok (.iload_n 3, 1) := by decide +kernel
theorem kd_C_pointedPlace_27 : decode kb_C_pointedPlace 27 = .ok (.ishr, 1) := by decide +kernel
theorem kd_C_pointedPlace_28 : decode kb_C_pointedPlace 28 = .ok (.iconst 1, 1) := by decide +kernel
theorem kd_C_pointedPlace_29 : decode kb_C_pointedPlace 29 = .ok (.iand, 1) := by decide +kernel
theorem kd_C_pointedPlace_30 : decode kb_C_pointedPlace 30 = .ok (.istore 6, 2) := by decide +kernel
theorem kd_C_pointedPlace_32 : decode kb_C_pointedPlace 32 = .ok (.iload 4, 2) := by decide +kernel
theorem kd_C_pointedPlace_34 : decode kb_C_pointedPlace 34 = .ok (.iload 6, 2) := by decide +kernel
theorem kd_C_pointedPlace_36 : decode kb_C_pointedPlace 36 = .ok (.iload 5, 2) := by decide +kernel
theorem kd_C_pointedPlace_38 : decode kb_C_pointedPlace 38 = .ok (.imul, 1) := by decide +kernel
theorem kd_C_pointedPlace_39 : decode kb_C_pointedPlace 39 = .ok (.iadd, 1) := by decide +kernel
theorem kd_C_pointedPlace_40 : decode kb_C_pointedPlace 40 = .ok (.istore 4, 2) := by decide +kernel
theorem kd_C_pointedPlace_42 : decode kb_C_pointedPlace 42 = .ok (.iconst 2, 1) := by decide +kernel
theorem kd_C_pointedPlace_43 : decode kb_C_pointedPlace 43 = .ok (.iload_n 3, 1) := by decide +kernel
theorem kd_C_pointedPlace_44 : decode kb_C_pointedPlace 44 = .ok (.imul, 1) := by decide +kernel
theorem kd_C_pointedPlace_45 : decode kb_C_pointedPlace 45 = .ok (.iload 6, 2) := by decide +kernel
theorem kd_C_pointedPlace_47 : decode kb_C_pointedPlace 47 = .ok (.iadd, 1) := by decide +kernel
theorem kd_C_pointedPlace_48 : decode kb_C_pointedPlace 48 = .ok (.istore_n 3, 1) := by decide +kernel
theorem kd_C_pointedPlace_49 : decode kb_C_pointedPlace 49 = .ok (.iload 5, 2) := by decide +kernel
theorem kd_C_pointedPlace_51 : decode kb_C_pointedPlace 51 = .ok (.iconst 1, 1) := by decide +kernel
theorem kd_C_pointedPlace_52 : decode kb_C_pointedPlace 52 = .ok (.ishr, 1) := by decide +kernel
theorem kd_C_pointedPlace_53 : decode kb_C_pointedPlace 53 = .ok (.istore 5, 2) := by decide +kernel
theorem kd_C_pointedPlace_55 : decode kb_C_pointedPlace 55 = .ok (.goto (-35), 3) := by decide +kernel
theorem kd_C_pointedPlace_58 : decode kb_C_pointedPlace 58 = .ok (.iload 4, 2) := by decide +kernel
theorem kd_C_pointedPlace_60 : decode kb_C_pointedPlace 60 = .ok (.ireturn, 1) := by decide +kernel
theorem kd_C_oldestPlace_0 : decode kb_C_oldestPlace 0 = .ok (.iconst 0, 1) := by decide +kernel
theorem kd_C_oldestPlace_1 : decode kb_C_oldestPlace 1 = .ok (.istore_n 2, 1) := by decide +kernel
theorem kd_C_oldestPlace_2 : decode kb_C_oldestPlace 2 = .ok (.iconst 1, 1) := by decide +kernel
theorem kd_C_oldestPlace_3 : decode kb_C_oldestPlace 3 = .ok (.istore_n 3, 1) := by decide +kernel
theorem kd_C_oldestPlace_4 : decode kb_C_oldestPlace 4 = .ok (.iload_n 3, 1) := by decide +kernel
theorem kd_C_oldestPlace_5 : decode kb_C_oldestPlace 5 = .ok (.aload_n 0, 1) := by decide +kernel
theorem kd_C_oldestPlace_6 : decode kb_C_oldestPlace 6 = .ok (.getfield 29, 3) := by decide +kernel
theorem kd_C_oldestPlace_9 : decode kb_C_oldestPlace 9 = .ok (.if_icmp .ge 36, 3) := by decide +kernel
theorem kd_C_oldestPlace_12 : decode kb_C_oldestPlace 12 = .ok (.aload_n 0, 1) := by decide +kernel
theorem kd_C_oldestPlace_13 : decode kb_C_oldestPlace 13 = .ok (.getfield 19, 3) := by decide +kernel
theorem kd_C_oldestPlace_16 : decode kb_C_oldestPlace 16 = .ok (.aload_n 0, 1) := by decide +kernel
theorem kd_C_oldestPlace_17 : decode kb_C_oldestPlace 17 = .ok (.iload_n 1, 1) := by decide +kernel
theorem kd_C_oldestPlace_18 : decode kb_C_oldestPlace 18 = .ok (.iload_n 3, 1) := by decide +kernel
theorem kd_C_oldestPlace_19 : decode kb_C_oldestPlace 19 = .ok (.invokevirtual 64, 3) := by decide +kernel
theorem kd_C_oldestPlace_22 : decode kb_C_oldestPlace 22 = .ok (.iaload, 1) := by decide +kernel
theorem kd_C_oldestPlace_23 : decode kb_C_oldestPlace 23 = .ok (.aload_n 0, 1) := by decide +kernel
theorem kd_C_oldestPlace_24 : decode kb_C_oldestPlace 24 = .ok (.getfield 19, 3) := by decide +kernel
theorem kd_C_oldestPlace_27 : decode kb_C_oldestPlace 27 = .ok (.aload_n 0, 1) := by decide +kernel
theorem kd_C_oldestPlace_28 : decode kb_C_oldestPlace 28 = .ok (.iload_n 1, 1) := by decide +kernel
theorem kd_C_oldestPlace_29 : decode kb_C_oldestPlace 29 = .ok (.iload_n 2, 1) := by decide +kernel
theorem kd_C_oldestPlace_30 : decode kb_C_oldestPlace 30 = .ok (.invokevirtual 64, 3) := by decide +kernel
theorem kd_C_oldestPlace_33 : decode kb_C_oldestPlace 33 = .ok (.iaload, 1) := by decide +kernel
theorem kd_C_oldestPlace_34 : decode kb_C_oldestPlace 34 = .ok (.if_icmp .ge 5, 3) := by decide +kernel
theorem kd_C_oldestPlace_37 : decode kb_C_oldestPlace 37 = .ok (.iload_n 3, 1) := by decide +kernel
theorem kd_C_oldestPlace_38 : decode kb_C_oldestPlace 38 = .ok (.istore_n 2, 1) := by decide +kernel
theorem kd_C_oldestPlace_39 : decode kb_C_oldestPlace 39 = .ok (.iinc 3 1, 3) := by decide +kernel
theorem kd_C_oldestPlace_42 : decode kb_C_oldestPlace 42 = .ok (.goto (-38), 3) := by decide +kernel
theorem kd_C_oldestPlace_45 : decode kb_C_oldestPlace 45 = .ok (.iload_n 2, 1) := by decide +kernel
theorem kd_C_oldestPlace_46 : decode kb_C_oldestPlace 46 = .ok (.ireturn, 1) := by decide +kernel
theorem kd_C_isDirtyAt_0 : decode kb_C_isDirtyAt 0 = .ok (.aload_n 0, 1) := by decide +kernel
theorem kd_C_isDirtyAt_1 : decode kb_C_isDirtyAt 1 = .ok (.getfield 15, 3) := by decide +kernel
theorem kd_C_isDirtyAt_4 : decode kb_C_isDirtyAt 4 = .ok (.aload_n 0, 1) := by decide +kernel
theorem kd_C_isDirtyAt_5 : decode kb_C_isDirtyAt 5 = .ok (.iload_n 1, 1) := by decide +kernel
theorem kd_C_isDirtyAt_6 : decode kb_C_isDirtyAt 6 = .ok (.iload_n 2, 1) := by decide +kernel
theorem kd_C_isDirtyAt_7 : decode kb_C_isDirtyAt 7 = .ok (.invokevirtual 64, 3) := by decide +kernel
theorem kd_C_isDirtyAt_10 : decode kb_C_isDirtyAt 10 = .ok (.baload, 1) := by decide +kernel
theorem kd_C_isDirtyAt_11 : decode kb_C_isDirtyAt 11 = .ok (.ireturn, 1) := by decide +kernel
theorem kd_C_pointAway_0 : decode kb_C_pointAway 0 = .ok (.aload_n 0, 1) := by decide +kernel
theorem kd_C_pointAway_1 : decode kb_C_pointAway 1 = .ok (.getfield 22, 3) := by decide +kernel
theorem kd_C_pointAway_4 : decode kb_C_pointAway 4 = .ok (.iload_n 1, 1) := by decide +kernel
theorem kd_C_pointAway_5 : decode kb_C_pointAway 5 = .ok (.iaload, 1) := by decide +kernel
theorem kd_C_pointAway_6 : decode kb_C_pointAway 6 = .ok (.istore_n 3, 1) := by decide +kernel
theorem kd_C_pointAway_7 : decode kb_C_pointAway 7 = .ok (.iconst 1, 1) := by decide +kernel
theorem kd_C_pointAway_8 : decode kb_C_pointAway 8 = .ok (.istore 4, 2) := by decide +kernel
theorem kd_C_pointAway_10 : decode kb_C_pointAway 10 = .ok (.aload_n 0, 1) := by decide +kernel
theorem kd_C_pointAway_11 : decode kb_C_pointAway 11 = .ok (.getfield 29, 3) := by decide +kernel
theorem kd_C_pointAway_14 : decode kb_C_pointAway 14 = .ok (.iconst 1, 1) := by decide +kernel
theorem kd_C_pointAway_15 : decode kb_C_pointAway 15 = .ok (.ishr, 1) := by decide +kernel
theorem kd_C_pointAway_16 : decode kb_C_pointAway 16 = .ok (.istore 5, 2) := by decide +kernel
theorem kd_C_pointAway_18 : decode kb_C_pointAway 18 = .ok (.iload 5, 2) := by decide +kernel
theorem kd_C_pointAway_20 : decode kb_C_pointAway 20 = .ok (.ifCond .le 52, 3) := by decide +kernel
theorem kd_C_pointAway_23 : decode kb_C_pointAway 23 = .ok (.iload_n 2, 1) := by decide +kernel
theorem kd_C_pointAway_24 : decode kb_C_pointAway 24 = .ok (.iload 5, 2) := by decide +kernel
theorem kd_C_pointAway_26 : decode kb_C_pointAway 26 = .ok (.iand, 1) := by decide +kernel
theorem kd_C_pointAway_27 : decode kb_C_pointAway 27 = .ok (.ifCond .eq 23, 3) := by decide +kernel
theorem kd_C_pointAway_30 : decode kb_C_pointAway 30 = .ok (.iload_n 3, 1) := by decide +kernel
theorem kd_C_pointAway_31 : decode kb_C_pointAway 31 = .ok (.iconst 1, 1) := by decide +kernel
theorem kd_C_pointAway_32 : decode kb_C_pointAway 32 = .ok (.iload 4, 2) := by decide +kernel
theorem kd_C_pointAway_34 : decode kb_C_pointAway 34 = .ok (.ishl, 1) := by decide +kernel
theorem kd_C_pointAway_35 : decode kb_C_pointAway 35 = .ok (.iconst (-1), 1) := by decide +kernel
theorem kd_C_pointAway_36 : decode kb_C_pointAway 36 = .ok (.ixor, 1) := by decide +kernel
theorem kd_C_pointAway_37 : decode kb_C_pointAway 37 = .ok (.iand, 1) := by decide +kernel
theorem kd_C_pointAway_38 : decode kb_C_pointAway 38 = .ok (.istore_n 3, 1) := by decide +kernel
theorem kd_C_pointAway_39 : decode kb_C_pointAway 39 = .ok (.iconst 2, 1) := by decide +kernel
theorem kd_C_pointAway_40 : decode kb_C_pointAway 40 = .ok (.iload 4, 2) := by decide +kernel
theorem kd_C_pointAway_42 : decode kb_C_pointAway 42 = .ok (.imul, 1) := by decide +kernel
theorem kd_C_pointAway_43 : decode kb_C_pointAway 43 = .ok (.iconst 1, 1) := by decide +kernel
theorem kd_C_pointAway_44 : decode kb_C_pointAway 44 = .ok (.iadd, 1) := by decide +kernel
theorem kd_C_pointAway_45 : decode kb_C_pointAway 45 = .ok (.istore 4, 2) := by decide +kernel
theorem kd_C_pointAway_47 : decode kb_C_pointAway 47 = .ok (.goto 16, 3) := by decide +kernel
theorem kd_C_pointAway_50 : decode kb_C_pointAway 50 = .ok (.iload_n 3, 1) := by decide +kernel
theorem kd_C_pointAway_51 : decode kb_C_pointAway 51 = .ok (.iconst 1, 1) := by decide +kernel
theorem kd_C_pointAway_52 : decode kb_C_pointAway 52 = .ok (.iload 4, 2) := by decide +kernel
theorem kd_C_pointAway_54 : decode kb_C_pointAway 54 = .ok (.ishl, 1) := by decide +kernel
theorem kd_C_pointAway_55 : decode kb_C_pointAway 55 = .ok (.ior, 1) := by decide +kernel
theorem kd_C_pointAway_56 : decode kb_C_pointAway 56 = .ok (.istore_n 3, 1) := by decide +kernel
theorem kd_C_pointAway_57 : decode kb_C_pointAway 57 = .ok (.iconst 2, 1) := by decide +kernel
theorem kd_C_pointAway_58 : decode kb_C_pointAway 58 = .ok (.iload 4, 2) := by decide +kernel
theorem kd_C_pointAway_60 : decode kb_C_pointAway 60 = .ok (.imul, 1) := by decide +kernel
theorem kd_C_pointAway_61 : decode kb_C_pointAway 61 = .ok (.istore 4, 2) := by decide +kernel
theorem kd_C_pointAway_63 : decode kb_C_pointAway 63 = .ok (.iload 5, 2) := by decide +kernel
theorem kd_C_pointAway_65 : decode kb_C_pointAway 65 = .ok (.iconst 1, 1) := by decide +kernel
theorem kd_C_pointAway_66 : decode kb_C_pointAway 66 = .ok (.ishr, 1) := by decide +kernel
theorem kd_C_pointAway_67 : decode kb_C_pointAway 67 = .ok (.istore 5, 2) := by decide +kernel
theorem kd_C_pointAway_69 : decode kb_C_pointAway 69 = .ok (.goto (-51), 3) := by decide +kernel
theorem kd_C_pointAway_72 : decode kb_C_pointAway 72 = .ok (.aload_n 0, 1) := by decide +kernel
theorem kd_C_pointAway_73 : decode kb_C_pointAway 73 = .ok (.getfield 22, 3) := by decide +kernel
theorem kd_C_pointAway_76 : decode kb_C_pointAway 76 = .ok (.iload_n 1, 1) := by decide +kernel
theorem kd_C_pointAway_77 : decode kb_C_pointAway 77 = .ok (.iload_n 3, 1) := by decide +kernel
theorem kd_C_pointAway_78 : decode kb_C_pointAway 78 = .ok (.iastore, 1) := by decide +kernel
theorem kd_C_pointAway_79 : decode kb_C_pointAway 79 = .ok (.return_, 1) := by decide +kernel
theorem kd_Y_flush_0 : decode kb_Y_flush 0 = .ok (.aload_n 0, 1) := by decide +kernel
theorem kd_Y_flush_1 : decode kb_Y_flush 1 = .ok (.iload_n 1, 1) := by decide +kernel
theorem kd_Y_flush_2 : decode kb_Y_flush 2 = .ok (.invokevirtual 73, 3) := by decide +kernel
theorem kd_Y_flush_5 : decode kb_Y_flush 5 = .ok (.invokevirtual 77, 3) := by decide +kernel
theorem kd_Y_flush_8 : decode kb_Y_flush 8 = .ok (.ireturn, 1) := by decide +kernel
theorem kd_Y_madeCache_0 : decode kb_Y_madeCache 0 = .ok (.iload_n 1, 1) := by decide +kernel
theorem kd_Y_madeCache_1 : decode kb_Y_madeCache 1 = .ok (.ifCond .lt 8, 3) := by decide +kernel
theorem kd_Y_madeCache_4 : decode kb_Y_madeCache 4 = .ok (.iload_n 1, 1) := by decide +kernel
theorem kd_Y_madeCache_5 : decode kb_Y_madeCache 5 = .ok (.iconst 4, 1) := by decide +kernel
theorem kd_Y_madeCache_6 : decode kb_Y_madeCache 6 = .ok (.if_icmp .lt 13, 3) := by decide +kernel
theorem kd_Y_madeCache_9 : decode kb_Y_madeCache 9 = .ok (.new 127, 3) := by decide +kernel
theorem kd_Y_madeCache_12 : decode kb_Y_madeCache 12 = .ok (.dup, 1) := by decide +kernel
theorem kd_Y_madeCache_13 : decode kb_Y_madeCache 13 = .ok (.ldc 24, 2) := by decide +kernel
theorem kd_Y_madeCache_15 : decode kb_Y_madeCache 15 = .ok (.invokespecial 129, 3) := by decide +kernel
theorem kd_Y_madeCache_18 : decode kb_Y_madeCache 18 = .ok (.athrow, 1) := by decide +kernel
theorem kd_Y_madeCache_19 : decode kb_Y_madeCache 19 = .ok (.aload_n 0, 1) := by decide +kernel
theorem kd_Y_madeCache_20 : decode kb_Y_madeCache 20 = .ok (.getfield 11, 3) := by decide +kernel
theorem kd_Y_madeCache_23 : decode kb_Y_madeCache 23 = .ok (.iload_n 1, 1) := by decide +kernel
theorem kd_Y_madeCache_24 : decode kb_Y_madeCache 24 = .ok (.aaload, 1) := by decide +kernel
theorem kd_Y_madeCache_25 : decode kb_Y_madeCache 25 = .ok (.astore_n 2, 1) := by decide +kernel
theorem kd_Y_madeCache_26 : decode kb_Y_madeCache 26 = .ok (.aload_n 2, 1) := by decide +kernel
theorem kd_Y_madeCache_27 : decode kb_Y_madeCache 27 = .ok (.ifnonnull 13, 3) := by decide +kernel
theorem kd_Y_madeCache_30 : decode kb_Y_madeCache 30 = .ok (.new 127, 3) := by decide +kernel
theorem kd_Y_madeCache_33 : decode kb_Y_madeCache 33 = .ok (.dup, 1) := by decide +kernel
theorem kd_Y_madeCache_34 : decode kb_Y_madeCache 34 = .ok (.ldc 130, 2) := by decide +kernel
theorem kd_Y_madeCache_36 : decode kb_Y_madeCache 36 = .ok (.invokespecial 129, 3) := by decide +kernel
theorem kd_Y_madeCache_39 : decode kb_Y_madeCache 39 = .ok (.athrow, 1) := by decide +kernel
theorem kd_Y_madeCache_40 : decode kb_Y_madeCache 40 = .ok (.aload_n 2, 1) := by decide +kernel
theorem kd_Y_madeCache_41 : decode kb_Y_madeCache 41 = .ok (.areturn, 1) := by decide +kernel
theorem kd_C_letAllGo_0 : decode kb_C_letAllGo 0 = .ok (.aload_n 0, 1) := by decide +kernel
theorem kd_C_letAllGo_1 : decode kb_C_letAllGo 1 = .ok (.invokevirtual 71, 3) := by decide +kernel
theorem kd_C_letAllGo_4 : decode kb_C_letAllGo 4 = .ok (.istore_n 1, 1) := by decide +kernel
theorem kd_C_letAllGo_5 : decode kb_C_letAllGo 5 = .ok (.aload_n 0, 1) := by decide +kernel
theorem kd_C_letAllGo_6 : decode kb_C_letAllGo 6 = .ok (.dup, 1) := by decide +kernel
theorem kd_C_letAllGo_7 : decode kb_C_letAllGo 7 = .ok (.getfield 47, 3) := by decide +kernel
theorem kd_C_letAllGo_10 : decode kb_C_letAllGo 10 = .ok (.iload_n 1, 1) := by decide +kernel
theorem kd_C_letAllGo_11 : decode kb_C_letAllGo 11 = .ok (.iadd, 1) := by decide +kernel
theorem kd_C_letAllGo_12 : decode kb_C_letAllGo 12 = .ok (.putfield 47, 3) := by decide +kernel
theorem kd_C_letAllGo_15 : decode kb_C_letAllGo 15 = .ok (.aload_n 0, 1) := by decide +kernel
theorem kd_C_letAllGo_16 : decode kb_C_letAllGo 16 = .ok (.invokevirtual 50, 3) := by decide +kernel
theorem kd_C_letAllGo_19 : decode kb_C_letAllGo 19 = .ok (.iload_n 1, 1) := by decide +kernel
theorem kd_C_letAllGo_20 : decode kb_C_letAllGo 20 = .ok (.ireturn, 1) := by decide +kernel
theorem kd_C_countDirty_0 : decode kb_C_countDirty 0 = .ok (.iconst 0, 1) := by decide +kernel
theorem kd_C_countDirty_1 : decode kb_C_countDirty 1 = .ok (.istore_n 1, 1) := by decide +kernel
theorem kd_C_countDirty_2 : decode kb_C_countDirty 2 = .ok (.iconst 0, 1) := by decide +kernel
theorem kd_C_countDirty_3 : decode kb_C_countDirty 3 = .ok (.istore_n 2, 1) := by decide +kernel
theorem kd_C_countDirty_4 : decode kb_C_countDirty 4 = .ok (.iload_n 2, 1) := by decide +kernel
theorem kd_C_countDirty_5 : decode kb_C_countDirty 5 = .ok (.aload_n 0, 1) := by decide +kernel
theorem kd_C_countDirty_6 : decode kb_C_countDirty 6 = .ok (.getfield 15, 3) := by decide +kernel
theorem kd_C_countDirty_9 : decode kb_C_countDirty 9 = .ok (.arraylength, 1) := by decide +kernel
theorem kd_C_countDirty_10 : decode kb_C_countDirty 10 = .ok (.if_icmp .ge 21, 3) := by decide +kernel
theorem kd_C_countDirty_13 : decode kb_C_countDirty 13 = .ok (.aload_n 0, 1) := by decide +kernel
theorem kd_C_countDirty_14 : decode kb_C_countDirty 14 = .ok (.getfield 15, 3) := by decide +kernel
theorem kd_C_countDirty_17 : decode kb_C_countDirty 17 = .ok (.iload_n 2, 1) := by decide +kernel
theorem kd_C_countDirty_18 : decode kb_C_countDirty 18 = .ok (.baload, 1) := by decide +kernel
theorem kd_C_countDirty_19 : decode kb_C_countDirty 19 = .ok (.ifCond .eq 6, 3) := by decide +kernel
theorem kd_C_countDirty_22 : decode kb_C_countDirty 22 = .ok (.iinc 1 1, 3) := by decide +kernel
theorem kd_C_countDirty_25 : decode kb_C_countDirty 25 = .ok (.iinc 2 1, 3) := by decide +kernel
theorem kd_C_countDirty_28 : decode kb_C_countDirty 28 = .ok (.goto (-24), 3) := by decide +kernel
theorem kd_C_countDirty_31 : decode kb_C_countDirty 31 = .ok (.iload_n 1, 1) := by decide +kernel
theorem kd_C_countDirty_32 : decode kb_C_countDirty 32 = .ok (.ireturn, 1) := by decide +kernel
theorem kd_Y_place_0 : decode kb_Y_place 0 = .ok (.aload_n 0, 1) := by decide +kernel
theorem kd_Y_place_1 : decode kb_Y_place 1 = .ok (.iload_n 1, 1) := by decide +kernel
theorem kd_Y_place_2 : decode kb_Y_place 2 = .ok (.invokevirtual 73, 3) := by decide +kernel
theorem kd_Y_place_5 : decode kb_Y_place 5 = .ok (.astore 5, 2) := by decide +kernel
theorem kd_Y_place_7 : decode kb_Y_place 7 = .ok (.aload 5, 2) := by decide +kernel
theorem kd_Y_place_9 : decode kb_Y_place 9 = .ok (.iload_n 2, 1) := by decide +kernel
theorem kd_Y_place_10 : decode kb_Y_place 10 = .ok (.iload_n 3, 1) := by decide +kernel
theorem kd_Y_place_11 : decode kb_Y_place 11 = .ok (.invokevirtual 80, 3) := by decide +kernel
theorem kd_Y_place_14 : decode kb_Y_place 14 = .ok (.ifCond .ne 13, 3) := by decide +kernel
theorem kd_Y_place_17 : decode kb_Y_place 17 = .ok (.new 84, 3) := by decide +kernel
theorem kd_Y_place_20 : decode kb_Y_place 20 = .ok (.dup, 1) := by decide +kernel
theorem kd_Y_place_21 : decode kb_Y_place 21 = .ok (.ldc 86, 2) := by decide +kernel
theorem kd_Y_place_23 : decode kb_Y_place 23 = .ok (.invokespecial 88, 3) := by decide +kernel
theorem kd_Y_place_26 : decode kb_Y_place 26 = .ok (.athrow, 1) := by decide +kernel
theorem kd_Y_place_27 : decode kb_Y_place 27 = .ok (.iload 4, 2) := by decide +kernel
theorem kd_Y_place_29 : decode kb_Y_place 29 = .ok (.lookupswitch 51 #[(0, 27), (1, 35)], 27) := by decide +kernel
theorem kd_Y_place_56 : decode kb_Y_place 56 = .ok (.aload 5, 2) := by decide +kernel
theorem kd_Y_place_58 : decode kb_Y_place 58 = .ok (.iload_n 2, 1) := by decide +kernel
theorem kd_Y_place_59 : decode kb_Y_place 59 = .ok (.iload_n 3, 1) := by decide +kernel
theorem kd_Y_place_60 : decode kb_Y_place 60 = .ok (.invokevirtual 89, 3) := by decide +kernel
theorem kd_Y_place_63 : decode kb_Y_place 63 = .ok (.ireturn, 1) := by decide +kernel
theorem kd_Y_place_64 : decode kb_Y_place 64 = .ok (.aload 5, 2) := by decide +kernel
theorem kd_Y_place_66 : decode kb_Y_place 66 = .ok (.iload_n 2, 1) := by decide +kernel
theorem kd_Y_place_67 : decode kb_Y_place 67 = .ok (.iload_n 3, 1) := by decide +kernel
theorem kd_Y_place_68 : decode kb_Y_place 68 = .ok (.invokevirtual 93, 3) := by decide +kernel
theorem kd_Y_place_71 : decode kb_Y_place 71 = .ok (.ifCond .eq 7, 3) := by decide +kernel
theorem kd_Y_place_74 : decode kb_Y_place 74 = .ok (.iconst 1, 1) := by decide +kernel
theorem kd_Y_place_75 : decode kb_Y_place 75 = .ok (.goto 4, 3) := by decide +kernel
theorem kd_Y_place_78 : decode kb_Y_place 78 = .ok (.iconst 0, 1) := by decide +kernel
theorem kd_Y_place_79 : decode kb_Y_place 79 = .ok (.ireturn, 1) := by decide +kernel
theorem kd_Y_place_80 : decode kb_Y_place 80 = .ok (.new 22, 3) := by decide +kernel
theorem kd_Y_place_83 : decode kb_Y_place 83 = .ok (.dup, 1) := by decide +kernel
theorem kd_Y_place_84 : decode kb_Y_place 84 = .ok (.ldc 96, 2) := by decide +kernel
theorem kd_Y_place_86 : decode kb_Y_place 86 = .ok (.invokespecial 26, 3) := by decide +kernel
theorem kd_Y_place_89 : decode kb_Y_place 89 = .ok (.athrow, 1) := by decide +kernel
theorem kd_C_hasPlace_0 : decode kb_C_hasPlace 0 = .ok (.iload_n 1, 1) := by decide +kernel
theorem kd_C_hasPlace_1 : decode kb_C_hasPlace 1 = .ok (.ifCond .lt 27, 3) := by decide +kernel
theorem kd_C_hasPlace_4 : decode kb_C_hasPlace 4 = .ok (.iload_n 1, 1) := by decide +kernel
theorem kd_C_hasPlace_5 : decode kb_C_hasPlace 5 = .ok (.aload_n 0, 1) := by decide +kernel
theorem kd_C_hasPlace_6 : decode kb_C_hasPlace 6 = .ok (.invokevirtual 53, 3) := by decide +kernel
theorem kd_C_hasPlace_9 : decode kb_C_hasPlace 9 = .ok (.if_icmp .ge 19, 3) := by decide +kernel
theorem kd_C_hasPlace_12 : decode kb_C_hasPlace 12 = .ok (.iload_n 2, 1) := by decide +kernel
theorem kd_C_hasPlace_13 : decode kb_C_hasPlace 13 = .ok (.ifCond .lt 15, 3) := by decide +kernel
theorem kd_C_hasPlace_16 : decode kb_C_hasPlace 16 = .ok (.iload_n 2, 1) := by decide +kernel
theorem kd_C_hasPlace_17 : decode kb_C_hasPlace 17 = .ok (.aload_n 0, 1) := by decide +kernel
theorem kd_C_hasPlace_18 : decode kb_C_hasPlace 18 = .ok (.getfield 29, 3) := by decide +kernel
theorem kd_C_hasPlace_21 : decode kb_C_hasPlace 21 = .ok (.if_icmp .ge 7, 3) := by decide +kernel
theorem kd_C_hasPlace_24 : decode kb_C_hasPlace 24 = .ok (.iconst 1, 1) := by decide +kernel
theorem kd_C_hasPlace_25 : decode kb_C_hasPlace 25 = .ok (.goto 4, 3) := by decide +kernel
theorem kd_C_hasPlace_28 : decode kb_C_hasPlace 28 = .ok (.iconst 0, 1) := by decide +kernel
theorem kd_C_hasPlace_29 : decode kb_C_hasPlace 29 = .ok (.ireturn, 1) := by decide +kernel
theorem kd_Y_about_0 : decode kb_Y_about 0 = .ok (.aload_n 0, 1) := by decide +kernel
theorem kd_Y_about_1 : decode kb_Y_about 1 = .ok (.iload_n 1, 1) := by decide +kernel
theorem kd_Y_about_2 : decode kb_Y_about 2 = .ok (.invokevirtual 73, 3) := by decide +kernel
theorem kd_Y_about_5 : decode kb_Y_about 5 = .ok (.astore_n 3, 1) := by decide +kernel
theorem kd_Y_about_6 : decode kb_Y_about 6 = .ok (.iload_n 2, 1) := by decide +kernel
theorem kd_Y_about_7 : decode kb_Y_about 7 = .ok (.tableswitch 67 0 5 #[37, 42, 47, 52, 57, 62], 37) := by decide +kernel
theorem kd_Y_about_44 : decode kb_Y_about 44 = .ok (.aload_n 3, 1) := by decide +kernel
theorem kd_Y_about_45 : decode kb_Y_about 45 = .ok (.getfield 98, 3) := by decide +kernel
theorem kd_Y_about_48 : decode kb_Y_about 48 = .ok (.ireturn, 1) := by decide +kernel
theorem kd_Y_about_49 : decode kb_Y_about 49 = .ok (.aload_n 3, 1) := by decide +kernel
theorem kd_Y_about_50 : decode kb_Y_about 50 = .ok (.getfield 102, 3) := by decide +kernel
theorem kd_Y_about_53 : decode kb_Y_about 53 = .ok (.ireturn, 1) := by decide +kernel
theorem kd_Y_about_54 : decode kb_Y_about 54 = .ok (.aload_n 3, 1) := by decide +kernel
theorem kd_Y_about_55 : decode kb_Y_about 55 = .ok (.getfield 105, 3) := by decide +kernel
theorem kd_Y_about_58 : decode kb_Y_about 58 = .ok (.ireturn, 1) := by decide +kernel
theorem kd_Y_about_59 : decode kb_Y_about 59 = .ok (.aload_n 3, 1) := by decide +kernel
theorem kd_Y_about_60 : decode kb_Y_about 60 = .ok (.getfield 108, 3) := by decide +kernel
theorem kd_Y_about_63 : decode kb_Y_about 63 = .ok (.ireturn, 1) := by decide +kernel
theorem kd_Y_about_64 : decode kb_Y_about 64 = .ok (.aload_n 3, 1) := by decide +kernel
theorem kd_Y_about_65 : decode kb_Y_about 65 = .ok (.invokevirtual 111, 3) := by decide +kernel
theorem kd_Y_about_68 : decode kb_Y_about 68 = .ok (.ireturn, 1) := by decide +kernel
theorem kd_Y_about_69 : decode kb_Y_about 69 = .ok (.aload_n 3, 1) := by decide +kernel
theorem kd_Y_about_70 : decode kb_Y_about 70 = .ok (.invokevirtual 114, 3) := by decide +kernel
theorem kd_Y_about_73 : decode kb_Y_about 73 = .ok (.ireturn, 1) := by decide +kernel
theorem kd_Y_about_74 : decode kb_Y_about 74 = .ok (.new 22, 3) := by decide +kernel
theorem kd_Y_about_77 : decode kb_Y_about 77 = .ok (.dup, 1) := by decide +kernel
theorem kd_Y_about_78 : decode kb_Y_about 78 = .ok (.ldc 117, 2) := by decide +kernel
theorem kd_Y_about_80 : decode kb_Y_about 80 = .ok (.invokespecial 26, 3) := by decide +kernel
theorem kd_Y_about_83 : decode kb_Y_about 83 = .ok (.athrow, 1) := by decide +kernel
theorem kd_C_countHeld_0 : decode kb_C_countHeld 0 = .ok (.iconst 0, 1) := by decide +kernel
theorem kd_C_countHeld_1 : decode kb_C_countHeld 1 = .ok (.istore_n 1, 1) := by decide +kernel
theorem kd_C_countHeld_2 : decode kb_C_countHeld 2 = .ok (.iconst 0, 1) := by decide +kernel
theorem kd_C_countHeld_3 : decode kb_C_countHeld 3 = .ok (.istore_n 2, 1) := by decide +kernel
theorem kd_C_countHeld_4 : decode kb_C_countHeld 4 = .ok (.iload_n 2, 1) := by decide +kernel
theorem kd_C_countHeld_5 : decode kb_C_countHeld 5 = .ok (.aload_n 0, 1) := by decide +kernel
theorem kd_C_countHeld_6 : decode kb_C_countHeld 6 = .ok (.getfield 9, 3) := by decide +kernel
theorem kd_C_countHeld_9 : decode kb_C_countHeld 9 = .ok (.arraylength, 1) := by decide +kernel
theorem kd_C_countHeld_10 : decode kb_C_countHeld 10 = .ok (.if_icmp .ge 22, 3) := by decide +kernel
theorem kd_C_countHeld_13 : decode kb_C_countHeld 13 = .ok (.aload_n 0, 1) := by decide +kernel
theorem kd_C_countHeld_14 : decode kb_C_countHeld 14 = .ok (.getfield 9, 3) := by decide +kernel
theorem kd_C_countHeld_17 : decode kb_C_countHeld 17 = .ok (.iload_n 2, 1) := by decide +kernel
theorem kd_C_countHeld_18 : decode kb_C_countHeld 18 = .ok (.iaload, 1) := by decide +kernel
theorem kd_C_countHeld_19 : decode kb_C_countHeld 19 = .ok (.iconst (-1), 1) := by decide +kernel
theorem kd_C_countHeld_20 : decode kb_C_countHeld 20 = .ok (.if_icmp .eq 6, 3) := by decide +kernel
theorem kd_C_countHeld_23 : decode kb_C_countHeld 23 = .ok (.iinc 1 1, 3) := by decide +kernel
theorem kd_C_countHeld_26 : decode kb_C_countHeld 26 = .ok (.iinc 2 1, 3) := by decide +kernel
theorem kd_C_countHeld_29 : decode kb_C_countHeld 29 = .ok (.goto (-25), 3) := by decide +kernel
theorem kd_C_countHeld_32 : decode kb_C_countHeld 32 = .ok (.iload_n 1, 1) := by decide +kernel
theorem kd_C_countHeld_33 : decode kb_C_countHeld 33 = .ok (.ireturn, 1) := by decide +kernel
theorem kd_Y_curve_0 : decode kb_Y_curve 0 = .ok (.iload_n 1, 1) := by decide +kernel
theorem kd_Y_curve_1 : decode kb_Y_curve 1 = .ok (.iload_n 2, 1) := by decide +kernel
theorem kd_Y_curve_2 : decode kb_Y_curve 2 = .ok (.invokestatic 119, 3) := by decide +kernel
theorem kd_Y_curve_5 : decode kb_Y_curve 5 = .ok (.aload_n 0, 1) := by decide +kernel
theorem kd_Y_curve_6 : decode kb_Y_curve 6 = .ok (.getfield 18, 3) := by decide +kernel
theorem kd_Y_curve_9 : decode kb_Y_curve 9 = .ok (.iload_n 1, 1) := by decide +kernel
theorem kd_Y_curve_10 : decode kb_Y_curve 10 = .ok (.iload_n 2, 1) := by decide +kernel
theorem kd_Y_curve_11 : decode kb_Y_curve 11 = .ok (.iconst 0, 1) := by decide +kernel
theorem kd_Y_curve_12 : decode kb_Y_curve 12 = .ok (.invokevirtual 123, 3) := by decide +kernel
theorem kd_Y_curve_15 : decode kb_Y_curve 15 = .ok (.ireturn, 1) := by decide +kernel
theorem kd_Y_requireLinesAndBits_0 : decode kb_Y_requireLinesAndBits 0 = .ok (.iload_n 0, 1) := by decide +kernel
theorem kd_Y_requireLinesAndBits_1 : decode kb_Y_requireLinesAndBits 1 = .ok (.iconst 1, 1) := by decide +kernel
theorem kd_Y_requireLinesAndBits_2 : decode kb_Y_requireLinesAndBits 2 = .ok (.if_icmp .lt 9, 3) := by decide +kernel
theorem kd_Y_requireLinesAndBits_5 : decode kb_Y_requireLinesAndBits 5 = .ok (.iload_n 0, 1) := by decide +kernel
theorem kd_Y_requireLinesAndBits_6 : decode kb_Y_requireLinesAndBits 6 = .ok (.bipush 64, 2) := by decide +kernel
theorem kd_Y_requireLinesAndBits_8 : decode kb_Y_requireLinesAndBits 8 = .ok (.if_icmp .le 13, 3) := by decide +kernel
theorem kd_Y_requireLinesAndBits_11 : decode kb_Y_requireLinesAndBits 11 = .ok (.new 22, 3) := by decide +kernel
theorem kd_Y_requireLinesAndBits_14 : decode kb_Y_requireLinesAndBits 14 = .ok (.dup, 1) := by decide +kernel
theorem kd_Y_requireLinesAndBits_15 : decode kb_Y_requireLinesAndBits 15 = .ok (.ldc 132, 2) := by decide +kernel
theorem kd_Y_requireLinesAndBits_17 : decode kb_Y_requireLinesAndBits 17 = .ok (.invokespecial 26, 3) := by decide +kernel
theorem kd_Y_requireLinesAndBits_20 : decode kb_Y_requireLinesAndBits 20 = .ok (.athrow, 1) := by decide +kernel
theorem kd_Y_requireLinesAndBits_21 : decode kb_Y_requireLinesAndBits 21 = .ok (.iload_n 1, 1) := by decide +kernel
theorem kd_Y_requireLinesAndBits_22 : decode kb_Y_requireLinesAndBits 22 = .ok (.invokestatic 43, 3) := by decide +kernel
theorem kd_Y_requireLinesAndBits_25 : decode kb_Y_requireLinesAndBits 25 = .ok (.ifCond .ne 13, 3) := by decide +kernel
theorem kd_Y_requireLinesAndBits_28 : decode kb_Y_requireLinesAndBits 28 = .ok (.new 22, 3) := by decide +kernel
theorem kd_Y_requireLinesAndBits_31 : decode kb_Y_requireLinesAndBits 31 = .ok (.dup, 1) := by decide +kernel
theorem kd_Y_requireLinesAndBits_32 : decode kb_Y_requireLinesAndBits 32 = .ok (.ldc 47, 2) := by decide +kernel
theorem kd_Y_requireLinesAndBits_34 : decode kb_Y_requireLinesAndBits 34 = .ok (.invokespecial 26, 3) := by decide +kernel
theorem kd_Y_requireLinesAndBits_37 : decode kb_Y_requireLinesAndBits 37 = .ok (.athrow, 1) := by decide +kernel
theorem kd_Y_requireLinesAndBits_38 : decode kb_Y_requireLinesAndBits 38 = .ok (.return_, 1) := by decide +kernel
theorem kd_W_countHits_0 : decode kb_W_countHits 0 = .ok (.aload_n 0, 1) := by decide +kernel
theorem kd_W_countHits_1 : decode kb_W_countHits 1 = .ok (.iload_n 2, 1) := by decide +kernel
theorem kd_W_countHits_2 : decode kb_W_countHits 2 = .ok (.invokevirtual 28, 3) := by decide +kernel
theorem kd_W_countHits_5 : decode kb_W_countHits 5 = .ok (.iconst 0, 1) := by decide +kernel
theorem kd_W_countHits_6 : decode kb_W_countHits 6 = .ok (.istore 4, 2) := by decide +kernel
theorem kd_W_countHits_8 : decode kb_W_countHits 8 = .ok (.iconst 0, 1) := by decide +kernel
theorem kd_W_countHits_9 : decode kb_W_countHits 9 = .ok (.istore 5, 2) := by decide +kernel
theorem kd_W_countHits_11 : decode kb_W_countHits 11 = .ok (.iconst 0, 1) := by decide +kernel
theorem kd_W_countHits_12 : decode kb_W_countHits 12 = .ok (.istore 6, 2) := by decide +kernel
theorem kd_W_countHits_14 : decode kb_W_countHits 14 = .ok (.iload 6, 2) := by decide +kernel
theorem kd_W_countHits_16 : decode kb_W_countHits 16 = .ok (.aload_n 0, 1) := by decide +kernel
theorem kd_W_countHits_17 : decode kb_W_countHits 17 = .ok (.getfield 24, 3) := by decide +kernel
theorem kd_W_countHits_20 : decode kb_W_countHits 20 = .ok (.if_icmp .ge 79, 3) := by decide +kernel
theorem kd_W_countHits_23 : decode kb_W_countHits 23 = .ok (.aload_n 0, 1) := by decide +kernel
theorem kd_W_countHits_24 : decode kb_W_countHits 24 = .ok (.iload 6, 2) := by decide +kernel
theorem kd_W_countHits_26 : decode kb_W_countHits 26 = .ok (.iload 4, 2) := by decide +kernel
theorem kd_W_countHits_28 : decode kb_W_countHits 28 = .ok (.invokevirtual 32, 3) := by decide +kernel
theorem kd_W_countHits_31 : decode kb_W_countHits 31 = .ok (.istore 7, 2) := by decide +kernel
theorem kd_W_countHits_33 : decode kb_W_countHits 33 = .ok (.iload 7, 2) := by decide +kernel
theorem kd_W_countHits_35 : decode kb_W_countHits 35 = .ok (.iconst (-1), 1) := by decide +kernel
theorem kd_W_countHits_36 : decode kb_W_countHits 36 = .ok (.if_icmp .eq 9, 3) := by decide +kernel
theorem kd_W_countHits_39 : decode kb_W_countHits 39 = .ok (.iinc 5 1, 3) := by decide +kernel
theorem kd_W_countHits_42 : decode kb_W_countHits 42 = .ok (.goto 38, 3) := by decide +kernel
theorem kd_W_countHits_45 : decode kb_W_countHits 45 = .ok (.iload 4, 2) := by decide +kernel
theorem kd_W_countHits_47 : decode kb_W_countHits 47 = .ok (.iload_n 1, 1) := by decide +kernel
theorem kd_W_countHits_48 : decode kb_W_countHits 48 = .ok (.if_icmp .ge 13, 3) := by decide +kernel
theorem kd_W_countHits_51 : decode kb_W_countHits 51 = .ok (.iload 4, 2) := by decide +kernel
theorem kd_W_countHits_53 : decode kb_W_countHits 53 = .ok (.istore 7, 2) := by decide +kernel
theorem kd_W_countHits_55 : decode kb_W_countHits 55 = .ok (.iinc 4 1, 3) := by decide +kernel
theorem kd_W_countHits_58 : decode kb_W_countHits 58 = .ok (.goto 22, 3) := by decide +kernel
theorem kd_W_countHits_61 : decode kb_W_countHits 61 = .ok (.iload_n 3, 1) := by decide +kernel
theorem kd_W_countHits_62 : decode kb_W_countHits 62 = .ok (.ifCond .eq 12, 3) := by decide +kernel
theorem kd_W_countHits_65 : decode kb_W_countHits 65 = .ok (.aload_n 0, 1) := by decide +kernel
theorem kd_W_countHits_66 : decode kb_W_countHits 66 = .ok (.iload 4, 2) := by decide +kernel
theorem kd_W_countHits_68 : decode kb_W_countHits 68 = .ok (.invokevirtual 36, 3) := by decide +kernel
theorem kd_W_countHits_71 : decode kb_W_countHits 71 = .ok (.goto 7, 3) := by decide +kernel
theorem kd_W_countHits_74 : decode kb_W_countHits 74 = .ok (.iload 4, 2) := by decide +kernel
theorem kd_W_countHits_76 : decode kb_W_countHits 76 = .ok (.iconst 1, 1) := by decide +kernel
theorem kd_W_countHits_77 : decode kb_W_countHits 77 = .ok (.isub, 1) := by decide +kernel
theorem kd_W_countHits_78 : decode kb_W_countHits 78 = .ok (.istore 7, 2) := by decide +kernel
theorem kd_W_countHits_80 : decode kb_W_countHits 80 = .ok (.aload_n 0, 1) := by decide +kernel
theorem kd_W_countHits_81 : decode kb_W_countHits 81 = .ok (.iload 7, 2) := by decide +kernel
theorem kd_W_countHits_83 : decode kb_W_countHits 83 = .ok (.aload_n 0, 1) := by decide +kernel
theorem kd_W_countHits_84 : decode kb_W_countHits 84 = .ok (.getfield 15, 3) := by decide +kernel
theorem kd_W_countHits_87 : decode kb_W_countHits 87 = .ok (.iload 6, 2) := by decide +kernel
theorem kd_W_countHits_89 : decode kb_W_countHits 89 = .ok (.iaload, 1) := by decide +kernel
theorem kd_W_countHits_90 : decode kb_W_countHits 90 = .ok (.invokevirtual 40, 3) := by decide +kernel
theorem kd_W_countHits_93 : decode kb_W_countHits 93 = .ok (.iinc 6 1, 3) := by decide +kernel
theorem kd_W_countHits_96 : decode kb_W_countHits 96 = .ok (.goto (-82), 3) := by decide +kernel
theorem kd_W_countHits_99 : decode kb_W_countHits 99 = .ok (.iload 5, 2) := by decide +kernel
theorem kd_W_countHits_101 : decode kb_W_countHits 101 = .ok (.ireturn, 1) := by decide +kernel
theorem kd_W_findNextUses_0 : decode kb_W_findNextUses 0 = .ok (.iconst 0, 1) := by decide +kernel
theorem kd_W_findNextUses_1 : decode kb_W_findNextUses 1 = .ok (.istore_n 2, 1) := by decide +kernel
theorem kd_W_findNextUses_2 : decode kb_W_findNextUses 2 = .ok (.iload_n 2, 1) := by decide +kernel
theorem kd_W_findNextUses_3 : decode kb_W_findNextUses 3 = .ok (.aload_n 0, 1) := by decide +kernel
theorem kd_W_findNextUses_4 : decode kb_W_findNextUses 4 = .ok (.getfield 24, 3) := by decide +kernel
theorem kd_W_findNextUses_7 : decode kb_W_findNextUses 7 = .ok (.if_icmp .ge 25, 3) := by decide +kernel
theorem kd_W_findNextUses_10 : decode kb_W_findNextUses 10 = .ok (.aload_n 0, 1) := by decide +kernel
theorem kd_W_findNextUses_11 : decode kb_W_findNextUses 11 = .ok (.getfield 18, 3) := by decide +kernel
theorem kd_W_findNextUses_14 : decode kb_W_findNextUses 14 = .ok (.aload_n 0, 1) := by decide +kernel
theorem kd_W_findNextUses_15 : decode kb_W_findNextUses 15 = .ok (.getfield 9, 3) := by decide +kernel
theorem kd_W_findNextUses_18 : decode kb_W_findNextUses 18 = .ok (.iload_n 2, 1) := by decide +kernel
theorem kd_W_findNextUses_19 : decode kb_W_findNextUses 19 = .ok (.iaload, 1) := by decide +kernel
theorem kd_W_findNextUses_20 : decode kb_W_findNextUses 20 = .ok (.iload_n 1, 1) := by decide +kernel
theorem kd_W_findNextUses_21 : decode kb_W_findNextUses 21 = .ok (.ishr, 1) := by decide +kernel
theorem kd_W_findNextUses_22 : decode kb_W_findNextUses 22 = .ok (.sipush 400, 3) := by decide +kernel
theorem kd_W_findNextUses_25 : decode kb_W_findNextUses 25 = .ok (.iastore, 1) := by decide +kernel
theorem kd_W_findNextUses_26 : decode kb_W_findNextUses 26 = .ok (.iinc 2 1, 3) := by decide +kernel
theorem kd_W_findNextUses_29 : decode kb_W_findNextUses 29 = .ok (.goto (-27), 3) := by decide +kernel
theorem kd_W_findNextUses_32 : decode kb_W_findNextUses 32 = .ok (.aload_n 0, 1) := by decide +kernel
theorem kd_W_findNextUses_33 : decode kb_W_findNextUses 33 = .ok (.getfield 24, 3) := by decide +kernel
theorem kd_W_findNextUses_36 : decode kb_W_findNextUses 36 = .ok (.iconst 1, 1) := by decide +kernel
theorem kd_W_findNextUses_37 : decode kb_W_findNextUses 37 = .ok (.isub, 1) := by decide +kernel
theorem kd_W_findNextUses_38 : decode kb_W_findNextUses 38 = .ok (.istore_n 2, 1) := by decide +kernel
theorem kd_W_findNextUses_39 : decode kb_W_findNextUses 39 = .ok (.iload_n 2, 1) := by decide +kernel
theorem kd_W_findNextUses_40 : decode kb_W_findNextUses 40 = .ok (.ifCond .lt 37, 3) := by decide +kernel
theorem kd_W_findNextUses_43 : decode kb_W_findNextUses 43 = .ok (.aload_n 0, 1) := by decide +kernel
theorem kd_W_findNextUses_44 : decode kb_W_findNextUses 44 = .ok (.getfield 9, 3) := by decide +kernel
theorem kd_W_findNextUses_47 : decode kb_W_findNextUses 47 = .ok (.iload_n 2, 1) := by decide +kernel
theorem kd_W_findNextUses_48 : decode kb_W_findNextUses 48 = .ok (.iaload, 1) := by decide +kernel
theorem kd_W_findNextUses_49 : decode kb_W_findNextUses 49 = .ok (.iload_n 1, 1) := by decide +kernel
theorem kd_W_findNextUses_50 : decode kb_W_findNextUses 50 = .ok (.ishr, 1) := by decide +kernel
theorem kd_W_findNextUses_51 : decode kb_W_findNextUses 51 = .ok (.istore_n 3, 1) := by decide +kernel
theorem kd_W_findNextUses_52 : decode kb_W_findNextUses 52 = .ok (.aload_n 0, 1) := by decide +kernel
theorem kd_W_findNextUses_53 : decode kb_W_findNextUses 53 = .ok (.getfield 15, 3) := by decide +kernel
theorem kd_W_findNextUses_56 : decode kb_W_findNextUses 56 = .ok (.iload_n 2, 1) := by decide +kernel
theorem kd_W_findNextUses_57 : decode kb_W_findNextUses 57 = .ok (.aload_n 0, 1) := by decide +kernel
theorem kd_W_findNextUses_58 : decode kb_W_findNextUses 58 = .ok (.getfield 18, 3) := by decide +kernel
theorem kd_W_findNextUses_61 : decode kb_W_findNextUses 61 = .ok (.iload_n 3, 1) := by decide +kernel
theorem kd_W_findNextUses_62 : decode kb_W_findNextUses 62 = .ok (.iaload, 1) := by decide +kernel
theorem kd_W_findNextUses_63 : decode kb_W_findNextUses 63 = .ok (.iastore, 1) := by decide +kernel
theorem kd_W_findNextUses_64 : decode kb_W_findNextUses 64 = .ok (.aload_n 0, 1) := by decide +kernel
theorem kd_W_findNextUses_65 : decode kb_W_findNextUses 65 = .ok (.getfield 18, 3) := by decide +kernel
theorem kd_W_findNextUses_68 : decode kb_W_findNextUses 68 = .ok (.iload_n 3, 1) := by decide +kernel
theorem kd_W_findNextUses_69 : decode kb_W_findNextUses 69 = .ok (.iload_n 2, 1) := by decide +kernel
theorem kd_W_findNextUses_70 : decode kb_W_findNextUses 70 = .ok (.iastore, 1) := by decide +kernel
theorem kd_W_findNextUses_71 : decode kb_W_findNextUses 71 = .ok (.iinc 2 (-1), 3) := by decide +kernel
theorem kd_W_findNextUses_74 : decode kb_W_findNextUses 74 = .ok (.goto (-35), 3) := by decide +kernel
theorem kd_W_findNextUses_77 : decode kb_W_findNextUses 77 = .ok (.return_, 1) := by decide +kernel
theorem kd_W_findLine_0 : decode kb_W_findLine 0 = .ok (.iconst 0, 1) := by decide +kernel
theorem kd_W_findLine_1 : decode kb_W_findLine 1 = .ok (.istore_n 3, 1) := by decide +kernel
theorem kd_W_findLine_2 : decode kb_W_findLine 2 = .ok (.iload_n 3, 1) := by decide +kernel
theorem kd_W_findLine_3 : decode kb_W_findLine 3 = .ok (.iload_n 2, 1) := by decide +kernel
theorem kd_W_findLine_4 : decode kb_W_findLine 4 = .ok (.if_icmp .ge 21, 3) := by decide +kernel
theorem kd_W_findLine_7 : decode kb_W_findLine 7 = .ok (.aload_n 0, 1) := by decide +kernel
theorem kd_W_findLine_8 : decode kb_W_findLine 8 = .ok (.getfield 21, 3) := by decide +kernel
theorem kd_W_findLine_11 : decode kb_W_findLine 11 = .ok (.iload_n 3, 1) := by decide +kernel
theorem kd_W_findLine_12 : decode kb_W_findLine 12 = .ok (.iaload, 1) := by decide +kernel
theorem kd_W_findLine_13 : decode kb_W_findLine 13 = .ok (.iload_n 1, 1) := by decide +kernel
theorem kd_W_findLine_14 : decode kb_W_findLine 14 = .ok (.if_icmp .ne 5, 3) := by decide +kernel
theorem kd_W_findLine_17 : decode kb_W_findLine 17 = .ok (.iload_n 3, 1) := by decide +kernel
theorem kd_W_findLine_18 : decode kb_W_findLine 18 = .ok (.ireturn, 1) := by decide +kernel
theorem kd_W_findLine_19 : decode kb_W_findLine 19 = .ok (.iinc 3 1, 3) := by decide +kernel
theorem kd_W_findLine_22 : decode kb_W_findLine 22 = .ok (.goto (-20), 3) := by decide +kernel
theorem kd_W_findLine_25 : decode kb_W_findLine 25 = .ok (.iconst (-1), 1) := by decide +kernel
theorem kd_W_findLine_26 : decode kb_W_findLine 26 = .ok (.ireturn, 1) := by decide +kernel
theorem kd_W_lineNeededLast_0 : decode kb_W_lineNeededLast 0 = .ok (.iconst 0, 1) := by decide +kernel
theorem kd_W_lineNeededLast_1 : decode kb_W_lineNeededLast 1 = .ok (.istore_n 2, 1) := by decide +kernel
theorem kd_W_lineNeededLast_2 : decode kb_W_lineNeededLast 2 = .ok (.iconst 1, 1) := by decide +kernel
theorem kd_W_lineNeededLast_3 : decode kb_W_lineNeededLast 3 = .ok (.istore_n 3, 1) := by decide +kernel
theorem kd_W_lineNeededLast_4 : decode kb_W_lineNeededLast 4 = .ok (.iload_n 3, 1) := by decide +kernel
theorem kd_W_lineNeededLast_5 : decode kb_W_lineNeededLast 5 = .ok (.iload_n 1, 1) := by decide +kernel
theorem kd_W_lineNeededLast_6 : decode kb_W_lineNeededLast 6 = .ok (.if_icmp .ge 26, 3) := by decide +kernel
theorem kd_W_lineNeededLast_9 : decode kb_W_lineNeededLast 9 = .ok (.aload_n 0, 1) := by decide +kernel
theorem kd_W_lineNeededLast_10 : decode kb_W_lineNeededLast 10 = .ok (.getfield 21, 3) := by decide +kernel
theorem kd_W_lineNeededLast_13 : decode kb_W_lineNeededLast 13 = .ok (.iload_n 3, 1) := by decide +kernel
theorem kd_W_lineNeededLast_14 : decode kb_W_lineNeededLast 14 = .ok (.iaload, 1) := by decide +kernel
theorem kd_W_lineNeededLast_15 : decode kb_W_lineNeededLast 15 = .ok (.aload_n 0, 1) := by decide +kernel
theorem kd_W_lineNeededLast_16 : decode kb_W_lineNeededLast 16 = .ok (.getfield 21, 3) := by decide +kernel
theorem kd_W_lineNeededLast_19 : decode kb_W_lineNeededLast 19 = .ok (.iload_n 2, 1) := by decide +kernel
theorem kd_W_lineNeededLast_20 : decode kb_W_lineNeededLast 20 = .ok (.iaload, 1) := by decide +kernel
theorem kd_W_lineNeededLast_21 : decode kb_W_lineNeededLast 21 = .ok (.if_icmp .le 5, 3) := by decide +kernel
theorem kd_W_lineNeededLast_24 : decode kb_W_lineNeededLast 24 = .ok (.iload_n 3, 1) := by decide +kernel
theorem kd_W_lineNeededLast_25 : decode kb_W_lineNeededLast 25 = .ok (.istore_n 2, 1) := by decide +kernel
theorem kd_W_lineNeededLast_26 : decode kb_W_lineNeededLast 26 = .ok (.iinc 3 1, 3) := by decide +kernel
theorem kd_W_lineNeededLast_29 : decode kb_W_lineNeededLast 29 = .ok (.goto (-25), 3) := by decide +kernel
theorem kd_W_lineNeededLast_32 : decode kb_W_lineNeededLast 32 = .ok (.iload_n 2, 1) := by decide +kernel
theorem kd_W_lineNeededLast_33 : decode kb_W_lineNeededLast 33 = .ok (.ireturn, 1) := by decide +kernel
theorem kd_W_bringToFront_0 : decode kb_W_bringToFront 0 = .ok (.iload_n 1, 1) := by decide +kernel
theorem kd_W_bringToFront_1 : decode kb_W_bringToFront 1 = .ok (.istore_n 3, 1) := by decide +kernel
theorem kd_W_bringToFront_2 : decode kb_W_bringToFront 2 = .ok (.iload_n 3, 1) := by decide +kernel
theorem kd_W_bringToFront_3 : decode kb_W_bringToFront 3 = .ok (.ifCond .le 23, 3) := by decide +kernel
theorem kd_W_bringToFront_6 : decode kb_W_bringToFront 6 = .ok (.aload_n 0, 1) := by decide +kernel
theorem kd_W_bringToFront_7 : decode kb_W_bringToFront 7 = .ok (.getfield 21, 3) := by decide +kernel
theorem kd_W_bringToFront_10 : decode kb_W_bringToFront 10 = .ok (.iload_n 3, 1) := by decide +kernel
theorem kd_W_bringToFront_11 : decode kb_W_bringToFront 11 = .ok (.aload_n 0, 1) := by decide +kernel
theorem kd_W_bringToFront_12 : decode kb_W_bringToFront 12 = .ok (.getfield 21, 3) := by decide +kernel
theorem kd_W_bringToFront_15 : decode kb_W_bringToFront 15 = .ok (.iload_n 3, 1) := by decide +kernel
theorem kd_W_bringToFront_16 : decode kb_W_bringToFront 16 = .ok (.iconst 1, 1) := by decide +kernel
theorem kd_W_bringToFront_17 : decode kb_W_bringToFront 17 = .ok (.isub, 1) := by decide +kernel
theorem kd_W_bringToFront_18 : decode kb_W_bringToFront 18 = .ok (.iaload, 1) := by decide +kernel
theorem kd_W_bringToFront_19 : decode kb_W_bringToFront 19 = .ok (.iastore, 1) := by decide +kernel
theorem kd_W_bringToFront_20 : decode kb_W_bringToFront 20 = .ok (.iinc 3 (-1), 3) := by decide +kernel
theorem kd_W_bringToFront_23 : decode kb_W_bringToFront 23 = .ok (.goto (-21), 3) := by decide +kernel
theorem kd_W_bringToFront_26 : decode kb_W_bringToFront 26 = .ok (.aload_n 0, 1) := by decide +kernel
theorem kd_W_bringToFront_27 : decode kb_W_bringToFront 27 = .ok (.getfield 21, 3) := by decide +kernel
theorem kd_W_bringToFront_30 : decode kb_W_bringToFront 30 = .ok (.iconst 0, 1) := by decide +kernel
theorem kd_W_bringToFront_31 : decode kb_W_bringToFront 31 = .ok (.iload_n 2, 1) := by decide +kernel
theorem kd_W_bringToFront_32 : decode kb_W_bringToFront 32 = .ok (.iastore, 1) := by decide +kernel
theorem kd_W_bringToFront_33 : decode kb_W_bringToFront 33 = .ok (.return_, 1) := by decide +kernel
theorem kd_Y_best_0 : decode kb_Y_best 0 = .ok (.iload_n 1, 1) := by decide +kernel
theorem kd_Y_best_1 : decode kb_Y_best 1 = .ok (.iload_n 2, 1) := by decide +kernel
theorem kd_Y_best_2 : decode kb_Y_best 2 = .ok (.invokestatic 119, 3) := by decide +kernel
theorem kd_Y_best_5 : decode kb_Y_best 5 = .ok (.aload_n 0, 1) := by decide +kernel
theorem kd_Y_best_6 : decode kb_Y_best 6 = .ok (.getfield 18, 3) := by decide +kernel
theorem kd_Y_best_9 : decode kb_Y_best 9 = .ok (.iload_n 1, 1) := by decide +kernel
theorem kd_Y_best_10 : decode kb_Y_best 10 = .ok (.iload_n 2, 1) := by decide +kernel
theorem kd_Y_best_11 : decode kb_Y_best 11 = .ok (.iconst 1, 1) := by decide +kernel
theorem kd_Y_best_12 : decode kb_Y_best 12 = .ok (.invokevirtual 123, 3) := by decide +kernel
theorem kd_Y_best_15 : decode kb_Y_best 15 = .ok (.ireturn, 1) := by decide +kernel
