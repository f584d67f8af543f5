theorem dJ6_numberOfTrailingZeros_0f7a4_0 : decode cJ6_numberOfTrailingZeros_0f7a4 0 = .ok (.iload_n 0, 1) := by decide +kernel
theorem dJ6_numberOfTrailingZeros_0f7a4_1 : decode cJ6_numberOfTrailingZeros_0f7a4 1 = .ok (.iconst (-1), 1) := by decide +kernel
theorem dJ6_numberOfTrailingZeros_0f7a4_2 : decode cJ6_numberOfTrailingZeros_0f7a4 2 = .ok (.ixor, 1) := by decide +kernel
theorem dJ6_numberOfTrailingZeros_0f7a4_3 : decode cJ6_numberOfTrailingZeros_0f7a4 3 = .ok (.iload_n 0, 1) := by decide +kernel
theorem dJ6_numberOfTrailingZeros_0f7a4_4 : decode cJ6_numberOfTrailingZeros_0f7a4 4 = .ok (.iconst 1, 1) := by decide +kernel
theorem dJ6_numberOfTrailingZeros_0f7a4_5 : decode cJ6_numberOfTrailingZeros_0f7a4 5 = .ok (.isub, 1) := by decide +kernel
theorem dJ6_numberOfTrailingZeros_0f7a4_6 : decode cJ6_numberOfTrailingZeros_0f7a4 6 = .ok (.iand, 1) := by decide +kernel
theorem dJ6_numberOfTrailingZeros_0f7a4_7 : decode cJ6_numberOfTrailingZeros_0f7a4 7 = .ok (.istore_n 0, 1) := by decide +kernel
theorem dJ6_numberOfTrailingZeros_0f7a4_8 : decode cJ6_numberOfTrailingZeros_0f7a4 8 = .ok (.iload_n 0, 1) := by decide +kernel
theorem dJ6_numberOfTrailingZeros_0f7a4_9 : decode cJ6_numberOfTrailingZeros_0f7a4 9 = .ok (.ifCond .gt 8, 3) := by decide +kernel
theorem dJ6_numberOfTrailingZeros_0f7a4_12 : decode cJ6_numberOfTrailingZeros_0f7a4 12 = .ok (.iload_n 0, 1) := by decide +kernel
theorem dJ6_numberOfTrailingZeros_0f7a4_13 : decode cJ6_numberOfTrailingZeros_0f7a4 13 = .ok (.bipush 32, 2) := by decide +kernel
theorem dJ6_numberOfTrailingZeros_0f7a4_15 : decode cJ6_numberOfTrailingZeros_0f7a4 15 = .ok (.iand, 1) := by decide +kernel
theorem dJ6_numberOfTrailingZeros_0f7a4_16 : decode cJ6_numberOfTrailingZeros_0f7a4 16 = .ok (.ireturn, 1) := by decide +kernel
theorem dJ6_numberOfTrailingZeros_0f7a4_17 : decode cJ6_numberOfTrailingZeros_0f7a4 17 = .ok (.iconst 1, 1) := by decide +kernel
theorem dJ6_numberOfTrailingZeros_0f7a4_18 : decode cJ6_numberOfTrailingZeros_0f7a4 18 = .ok (.istore_n 1, 1) := by decide +kernel
theorem dJ6_numberOfTrailingZeros_0f7a4_19 : decode cJ6_numberOfTrailingZeros_0f7a4 19 = .ok (.iload_n 0, 1) := by decide +kernel
theorem dJ6_numberOfTrailingZeros_0f7a4_20 : decode cJ6_numberOfTrailingZeros_0f7a4 20 = .ok (.ldc_w 264, 3) := by decide +kernel
theorem dJ6_numberOfTrailingZeros_0f7a4_23 : decode cJ6_numberOfTrailingZeros_0f7a4 23 = .ok (.if_icmp .le 11, 3) := by decide +kernel
theorem dJ6_numberOfTrailingZeros_0f7a4_26 : decode cJ6_numberOfTrailingZeros_0f7a4 26 = .ok (.iinc 1 16, 3) := by decide +kernel
theorem dJ6_numberOfTrailingZeros_0f7a4_29 : decode cJ6_numberOfTrailingZeros_0f7a4 29 = .ok (.iload_n 0, 1) := by decide +kernel
theorem dJ6_numberOfTrailingZeros_0f7a4_30 : decode cJ6_numberOfTrailingZeros_0f7a4 30 = .ok (.bipush 16, 2) := by decide +kernel
theorem dJ6_numberOfTrailingZeros_0f7a4_32 : decode cJ6_numberOfTrailingZeros_0f7a4 32 = .ok (.iushr, 1) := by decide +kernel
theorem dJ6_numberOfTrailingZeros_0f7a4_33 : decode cJ6_numberOfTrailingZeros_0f7a4 33 = .ok (.istore_n 0, 1) := by decide +kernel
theorem dJ6_numberOfTrailingZeros_0f7a4_34 : decode cJ6_numberOfTrailingZeros_0f7a4 34 = .ok (.iload_n 0, 1) := by decide +kernel
theorem dJ6_numberOfTrailingZeros_0f7a4_35 : decode cJ6_numberOfTrailingZeros_0f7a4 35 = .ok (.sipush 256, 3) := by decide +kernel
theorem dJ6_numberOfTrailingZeros_0f7a4_38 : decode cJ6_numberOfTrailingZeros_0f7a4 38 = .ok (.if_icmp .le 11, 3) := by decide +kernel
theorem dJ6_numberOfTrailingZeros_0f7a4_41 : decode cJ6_numberOfTrailingZeros_0f7a4 41 = .ok (.iinc 1 8, 3) := by decide +kernel
theorem dJ6_numberOfTrailingZeros_0f7a4_44 : decode cJ6_numberOfTrailingZeros_0f7a4 44 = .ok (.iload_n 0, 1) := by decide +kernel
theorem dJ6_numberOfTrailingZeros_0f7a4_45 : decode cJ6_numberOfTrailingZeros_0f7a4 45 = .ok (.bipush 8, 2) := by decide +kernel
theorem dJ6_numberOfTrailingZeros_0f7a4_47 : decode cJ6_numberOfTrailingZeros_0f7a4 47 = .ok (.iushr, 1) := by decide +kernel
theorem dJ6_numberOfTrailingZeros_0f7a4_48 : decode cJ6_numberOfTrailingZeros_0f7a4 48 = .ok (.istore_n 0, 1) := by decide +kernel
theorem dJ6_numberOfTrailingZeros_0f7a4_49 : decode cJ6_numberOfTrailingZeros_0f7a4 49 = .ok (.iload_n 0, 1) := by decide +kernel
theorem dJ6_numberOfTrailingZeros_0f7a4_50 : decode cJ6_numberOfTrailingZeros_0f7a4 50 = .ok (.bipush 16, 2) := by decide +kernel
theorem dJ6_numberOfTrailingZeros_0f7a4_52 : decode cJ6_numberOfTrailingZeros_0f7a4 52 = .ok (.if_icmp .le 10, 3) := by decide +kernel
theorem dJ6_numberOfTrailingZeros_0f7a4_55 : decode cJ6_numberOfTrailingZeros_0f7a4 55 = .ok (.iinc 1 4, 3) := by decide +kernel
theorem dJ6_numberOfTrailingZeros_0f7a4_58 : decode cJ6_numberOfTrailingZeros_0f7a4 58 = .ok (.iload_n 0, 1) := by decide +kernel
theorem dJ6_numberOfTrailingZeros_0f7a4_59 : decode cJ6_numberOfTrailingZeros_0f7a4 59 = .ok (.iconst 4, 1) := by decide +kernel
theorem dJ6_numberOfTrailingZeros_0f7a4_60 : decode cJ6_numberOfTrailingZeros_0f7a4 60 = .ok (.iushr, 1) := by decide +kernel
theorem dJ6_numberOfTrailingZeros_0f7a4_61 : decode cJ6_numberOfTrailingZeros_0f7a4 61 = .ok (.istore_n 0, 1) := by decide +kernel
theorem dJ6_numberOfTrailingZeros_0f7a4_62 : decode cJ6_numberOfTrailingZeros_0f7a4 62 = .ok (.iload_n 0, 1) := by decide +kernel
theorem dJ6_numberOfTrailingZeros_0f7a4_63 : decode cJ6_numberOfTrailingZeros_0f7a4 63 = .ok (.iconst 4, 1) := by decide +kernel
theorem dJ6_numberOfTrailingZeros_0f7a4_64 : decode cJ6_numberOfTrailingZeros_0f7a4 64 = .ok (.if_icmp .le 10, 3) := by decide +kernel
theorem dJ6_numberOfTrailingZeros_0f7a4_67 : decode cJ6_numberOfTrailingZeros_0f7a4 67 = .ok (.iinc 1 2, 3) := by decide +kernel
theorem dJ6_numberOfTrailingZeros_0f7a4_70 : decode cJ6_numberOfTrailingZeros_0f7a4 70 = .ok (.iload_n 0, 1) := by decide +kernel
theorem dJ6_numberOfTrailingZeros_0f7a4_71 : decode cJ6_numberOfTrailingZeros_0f7a4 71 = .ok (.iconst 2, 1) := by decide +kernel
theorem dJ6_numberOfTrailingZeros_0f7a4_72 : decode cJ6_numberOfTrailingZeros_0f7a4 72 = .ok (.iushr, 1) := by decide +kernel
theorem dJ6_numberOfTrailingZeros_0f7a4_73 : decode cJ6_numberOfTrailingZeros_0f7a4 73 = .ok (.istore_n 0, 1) := by decide +kernel
theorem dJ6_numberOfTrailingZeros_0f7a4_74 : decode cJ6_numberOfTrailingZeros_0f7a4 74 = .ok (.iload_n 1, 1) := by decide +kernel
theorem dJ6_numberOfTrailingZeros_0f7a4_75 : decode cJ6_numberOfTrailingZeros_0f7a4 75 = .ok (.iload_n 0, 1) := by decide +kernel
theorem dJ6_numberOfTrailingZeros_0f7a4_76 : decode cJ6_numberOfTrailingZeros_0f7a4 76 = .ok (.iconst 1, 1) := by decide +kernel
theorem dJ6_numberOfTrailingZeros_0f7a4_77 : decode cJ6_numberOfTrailingZeros_0f7a4 77 = .ok (.iushr, 1) := by decide +kernel
theorem dJ6_numberOfTrailingZeros_0f7a4_78 : decode cJ6_numberOfTrailingZeros_0f7a4 78 = .ok (.iadd, 1) := by decide +kernel
theorem dJ6_numberOfTrailingZeros_0f7a4_79 : decode cJ6_numberOfTrailingZeros_0f7a4 79 = .ok (.ireturn, 1) := by decide +kernel
theorem dJ6_bitCount_0f7a4_0 : decode cJ6_bitCount_0f7a4 0 = .ok (.iload_n 0, 1) := by decide +kernel
theorem dJ6_bitCount_0f7a4_1 : decode cJ6_bitCount_0f7a4 1 = .ok (.iload_n 0, 1) := by decide +kernel
theorem dJ6_bitCount_0f7a4_2 : decode cJ6_bitCount_0f7a4 2 = .ok (.iconst 1, 1) := by decide +kernel
theorem dJ6_bitCount_0f7a4_3 : decode cJ6_bitCount_0f7a4 3 = .ok (.iushr, 1) := by decide +kernel
theorem dJ6_bitCount_0f7a4_4 : decode cJ6_bitCount_0f7a4 4 = .ok (.ldc_w 265, 3) := by decide +kernel
theorem dJ6_bitCount_0f7a4_7 : decode cJ6_bitCount_0f7a4 7 = .ok (.iand, 1) := by decide +kernel
theorem dJ6_bitCount_0f7a4_8 : decode cJ6_bitCount_0f7a4 8 = .ok (.isub, 1) := by decide +kernel
theorem dJ6_bitCount_0f7a4_9 : decode cJ6_bitCount_0f7a4 9 = .ok (.istore_n 0, 1) := by decide +kernel
theorem dJ6_bitCount_0f7a4_10 : decode cJ6_bitCount_0f7a4 10 = .ok (.iload_n 0, 1) := by decide +kernel
theorem dJ6_bitCount_0f7a4_11 : decode cJ6_bitCount_0f7a4 11 = .ok (.ldc_w 266, 3) := by decide +kernel
theorem dJ6_bitCount_0f7a4_14 : decode cJ6_bitCount_0f7a4 14 = .ok (.iand, 1) := by decide +kernel
theorem dJ6_bitCount_0f7a4_15 : decode cJ6_bitCount_0f7a4 15 = .ok (.iload_n 0, 1) := by decide +kernel
theorem dJ6_bitCount_0f7a4_16 : decode cJ6_bitCount_0f7a4 16 = .ok (.iconst 2, 1) := by decide +kernel
theorem dJ6_bitCount_0f7a4_17 : decode cJ6_bitCount_0f7a4 17 = .ok (.iushr, 1) := by decide +kernel
theorem dJ6_bitCount_0f7a4_18 : decode cJ6_bitCount_0f7a4 18 = .ok (.ldc_w 266, 3) := by decide +kernel
theorem dJ6_bitCount_0f7a4_21 : decode cJ6_bitCount_0f7a4 21 = .ok (.iand, 1) := by decide +kernel
theorem dJ6_bitCount_0f7a4_22 : decode cJ6_bitCount_0f7a4 22 = .ok (.iadd, 1) := by decide +kernel
theorem dJ6_bitCount_0f7a4_23 : decode cJ6_bitCount_0f7a4 23 = .ok (.istore_n 0, 1) := by decide +kernel
theorem dJ6_bitCount_0f7a4_24 : decode cJ6_bitCount_0f7a4 24 = .ok (.iload_n 0, 1) := by decide +kernel
theorem dJ6_bitCount_0f7a4_25 : decode cJ6_bitCount_0f7a4 25 = .ok (.iload_n 0, 1) := by decide +kernel
theorem dJ6_bitCount_0f7a4_26 : decode cJ6_bitCount_0f7a4 26 = .ok (.iconst 4, 1) := by decide +kernel
theorem dJ6_bitCount_0f7a4_27 : decode cJ6_bitCount_0f7a4 27 = .ok (.iushr, 1) := by decide +kernel
theorem dJ6_bitCount_0f7a4_28 : decode cJ6_bitCount_0f7a4 28 = .ok (.iadd, 1) := by decide +kernel
theorem dJ6_bitCount_0f7a4_29 : decode cJ6_bitCount_0f7a4 29 = .ok (.ldc_w 267, 3) := by decide +kernel
theorem dJ6_bitCount_0f7a4_32 : decode cJ6_bitCount_0f7a4 32 = .ok (.iand, 1) := by decide +kernel
theorem dJ6_bitCount_0f7a4_33 : decode cJ6_bitCount_0f7a4 33 = .ok (.istore_n 0, 1) := by decide +kernel
theorem dJ6_bitCount_0f7a4_34 : decode cJ6_bitCount_0f7a4 34 = .ok (.iload_n 0, 1) := by decide +kernel
theorem dJ6_bitCount_0f7a4_35 : decode cJ6_bitCount_0f7a4 35 = .ok (.iload_n 0, 1) := by decide +kernel
theorem dJ6_bitCount_0f7a4_36 : decode cJ6_bitCount_0f7a4 36 = .ok (.bipush 8, 2) := by decide +kernel
theorem dJ6_bitCount_0f7a4_38 : decode cJ6_bitCount_0f7a4 38 = .ok (.iushr, 1) := by decide +kernel
theorem dJ6_bitCount_0f7a4_39 : decode cJ6_bitCount_0f7a4 39 = .ok (.iadd, 1) := by decide +kernel
theorem dJ6_bitCount_0f7a4_40 : decode cJ6_bitCount_0f7a4 40 = .ok (.istore_n 0, 1) := by decide +kernel
theorem dJ6_bitCount_0f7a4_41 : decode cJ6_bitCount_0f7a4 41 = .ok (.iload_n 0, 1) := by decide +kernel
theorem dJ6_bitCount_0f7a4_42 : decode cJ6_bitCount_0f7a4 42 = .ok (.iload_n 0, 1) := by decide +kernel
theorem dJ6_bitCount_0f7a4_43 : decode cJ6_bitCount_0f7a4 43 = .ok (.bipush 16, 2) := by decide +kernel
theorem dJ6_bitCount_0f7a4_45 : decode cJ6_bitCount_0f7a4 45 = .ok (.iushr, 1) := by decide +kernel
theorem dJ6_bitCount_0f7a4_46 : decode cJ6_bitCount_0f7a4 46 = .ok (.iadd, 1) := by decide +kernel
theorem dJ6_bitCount_0f7a4_47 : decode cJ6_bitCount_0f7a4 47 = .ok (.istore_n 0, 1) := by decide +kernel
theorem dJ6_bitCount_0f7a4_48 : decode cJ6_bitCount_0f7a4 48 = .ok (.iload_n 0, 1) := by decide +kernel
theorem dJ6_bitCount_0f7a4_49 : decode cJ6_bitCount_0f7a4 49 = .ok (.bipush 63, 2) := by decide +kernel
theorem dJ6_bitCount_0f7a4_51 : decode cJ6_bitCount_0f7a4 51 = .ok (.iand, 1) := by decide +kernel
theorem dJ6_bitCount_0f7a4_52 : decode cJ6_bitCount_0f7a4 52 = .ok (.ireturn, 1) := by decide +kernel
theorem dJ9_max_7cf53_0 : decode cJ9_max_7cf53 0 = .ok (.iload_n 0, 1) := by decide +kernel
theorem dJ9_max_7cf53_1 : decode cJ9_max_7cf53 1 = .ok (.iload_n 1, 1) := by decide +kernel
theorem dJ9_max_7cf53_2 : decode cJ9_max_7cf53 2 = .ok (.if_icmp .lt 7, 3) := by decide +kernel
theorem dJ9_max_7cf53_5 : decode cJ9_max_7cf53 5 = .ok (.iload_n 0, 1) := by decide +kernel
theorem dJ9_max_7cf53_6 : decode cJ9_max_7cf53 6 = .ok (.goto 4, 3) := by decide +kernel
theorem dJ9_max_7cf53_9 : decode cJ9_max_7cf53 9 = .ok (.iload_n 1, 1) := by decide +kernel
theorem dJ9_max_7cf53_10 : decode cJ9_max_7cf53 10 = .ok (.ireturn, 1) := by decide +kernel
theorem dJ7_fill_d0a16_0 : decode cJ7_fill_d0a16 0 = .ok (.iconst 0, 1) := by decide +kernel
theorem dJ7_fill_d0a16_1 : decode cJ7_fill_d0a16 1 = .ok (.istore_n 3, 1) := by decide +kernel
theorem dJ7_fill_d0a16_2 : decode cJ7_fill_d0a16 2 = .ok (.aload_n 0, 1) := by decide +kernel
theorem dJ7_fill_d0a16_3 : decode cJ7_fill_d0a16 3 = .ok (.arraylength, 1) := by decide +kernel
theorem dJ7_fill_d0a16_4 : decode cJ7_fill_d0a16 4 = .ok (.istore 4, 2) := by decide +kernel
theorem dJ7_fill_d0a16_6 : decode cJ7_fill_d0a16 6 = .ok (.iload_n 3, 1) := by decide +kernel
theorem dJ7_fill_d0a16_7 : decode cJ7_fill_d0a16 7 = .ok (.iload 4, 2) := by decide +kernel
theorem dJ7_fill_d0a16_9 : decode cJ7_fill_d0a16 9 = .ok (.if_icmp .ge 13, 3) := by decide +kernel
theorem dJ7_fill_d0a16_12 : decode cJ7_fill_d0a16 12 = .ok (.aload_n 0, 1) := by decide +kernel
theorem dJ7_fill_d0a16_13 : decode cJ7_fill_d0a16 13 = .ok (.iload_n 3, 1) := by decide +kernel
theorem dJ7_fill_d0a16_14 : decode cJ7_fill_d0a16 14 = .ok (.lload_n 1, 1) := by decide +kernel
theorem dJ7_fill_d0a16_15 : decode cJ7_fill_d0a16 15 = .ok (.lastore, 1) := by decide +kernel
theorem dJ7_fill_d0a16_16 : decode cJ7_fill_d0a16 16 = .ok (.iinc 3 1, 3) := by decide +kernel
theorem dJ7_fill_d0a16_19 : decode cJ7_fill_d0a16 19 = .ok (.goto (-13), 3) := by decide +kernel
theorem dJ7_fill_d0a16_22 : decode cJ7_fill_d0a16 22 = .ok (.return_, 1) := by decide +kernel
theorem dJ7_fill_53178_0 : decode cJ7_fill_53178 0 = .ok (.iconst 0, 1) := by decide +kernel
theorem dJ7_fill_53178_1 : decode cJ7_fill_53178 1 = .ok (.istore_n 2, 1) := by decide +kernel
theorem dJ7_fill_53178_2 : decode cJ7_fill_53178 2 = .ok (.aload_n 0, 1) := by decide +kernel
theorem dJ7_fill_53178_3 : decode cJ7_fill_53178 3 = .ok (.arraylength, 1) := by decide +kernel
theorem dJ7_fill_53178_4 : decode cJ7_fill_53178 4 = .ok (.istore_n 3, 1) := by decide +kernel
theorem dJ7_fill_53178_5 : decode cJ7_fill_53178 5 = .ok (.iload_n 2, 1) := by decide +kernel
theorem dJ7_fill_53178_6 : decode cJ7_fill_53178 6 = .ok (.iload_n 3, 1) := by decide +kernel
theorem dJ7_fill_53178_7 : decode cJ7_fill_53178 7 = .ok (.if_icmp .ge 13, 3) := by decide +kernel
theorem dJ7_fill_53178_10 : decode cJ7_fill_53178 10 = .ok (.aload_n 0, 1) := by decide +kernel
theorem dJ7_fill_53178_11 : decode cJ7_fill_53178 11 = .ok (.iload_n 2, 1) := by decide +kernel
theorem dJ7_fill_53178_12 : decode cJ7_fill_53178 12 = .ok (.iload_n 1, 1) := by decide +kernel
theorem dJ7_fill_53178_13 : decode cJ7_fill_53178 13 = .ok (.iastore, 1) := by decide +kernel
theorem dJ7_fill_53178_14 : decode cJ7_fill_53178 14 = .ok (.iinc 2 1, 3) := by decide +kernel
theorem dJ7_fill_53178_17 : decode cJ7_fill_53178 17 = .ok (.goto (-12), 3) := by decide +kernel
theorem dJ7_fill_53178_20 : decode cJ7_fill_53178 20 = .ok (.return_, 1) := by decide +kernel
theorem dX0_init_0 : decode cX0_init 0 = .ok (.aload_n 0, 1) := by decide +kernel
theorem dX0_init_1 : decode cX0_init 1 = .ok (.invokespecial 3, 3) := by decide +kernel
theorem dX0_init_4 : decode cX0_init 4 = .ok (.aload_n 0, 1) := by decide +kernel
theorem dX0_init_5 : decode cX0_init 5 = .ok (.bipush 10, 2) := by decide +kernel
theorem dX0_init_7 : decode cX0_init 7 = .ok (.newarray .int, 2) := by decide +kernel
theorem dX0_init_9 : decode cX0_init 9 = .ok (.putfield 9, 3) := by decide +kernel
theorem dX0_init_12 : decode cX0_init 12 = .ok (.aload_n 0, 1) := by decide +kernel
theorem dX0_init_13 : decode cX0_init 13 = .ok (.iconst 0, 1) := by decide +kernel
theorem dX0_init_14 : decode cX0_init 14 = .ok (.putfield 15, 3) := by decide +kernel
theorem dX0_init_17 : decode cX0_init 17 = .ok (.aload_n 0, 1) := by decide +kernel
theorem dX0_init_18 : decode cX0_init 18 = .ok (.iconst 0, 1) := by decide +kernel
theorem dX0_init_19 : decode cX0_init 19 = .ok (.putfield 19, 3) := by decide +kernel
theorem dX0_init_22 : decode cX0_init 22 = .ok (.return_, 1) := by decide +kernel
theorem dX0_add_0 : decode cX0_add 0 = .ok (.aload_n 0, 1) := by decide +kernel
theorem dX0_add_1 : decode cX0_add 1 = .ok (.getfield 15, 3) := by decide +kernel
theorem dX0_add_4 : decode cX0_add 4 = .ok (.bipush 10, 2) := by decide +kernel
theorem dX0_add_6 : decode cX0_add 6 = .ok (.if_icmp .lt 6, 3) := by decide +kernel
theorem dX0_add_9 : decode cX0_add 9 = .ok (.bipush (-3), 2) := by decide +kernel
theorem dX0_add_11 : decode cX0_add 11 = .ok (.ireturn, 1) := by decide +kernel
theorem dX0_add_12 : decode cX0_add 12 = .ok (.aload_n 0, 1) := by decide +kernel
theorem dX0_add_13 : decode cX0_add 13 = .ok (.getfield 9, 3) := by decide +kernel
theorem dX0_add_16 : decode cX0_add 16 = .ok (.aload_n 0, 1) := by decide +kernel
theorem dX0_add_17 : decode cX0_add 17 = .ok (.getfield 15, 3) := by decide +kernel
theorem dX0_add_20 : decode cX0_add 20 = .ok (.iload_n 1, 1) := by decide +kernel
theorem dX0_add_21 : decode cX0_add 21 = .ok (.iastore, 1) := by decide +kernel
theorem dX0_add_22 : decode cX0_add 22 = .ok (.aload_n 0, 1) := by decide +kernel
theorem dX0_add_23 : decode cX0_add 23 = .ok (.dup, 1) := by decide +kernel
theorem dX0_add_24 : decode cX0_add 24 = .ok (.getfield 15, 3) := by decide +kernel
theorem dX0_add_27 : decode cX0_add 27 = .ok (.iconst 1, 1) := by decide +kernel
theorem dX0_add_28 : decode cX0_add 28 = .ok (.iadd, 1) := by decide +kernel
theorem dX0_add_29 : decode cX0_add 29 = .ok (.putfield 15, 3) := by decide +kernel
theorem dX0_add_32 : decode cX0_add 32 = .ok (.aload_n 0, 1) := by decide +kernel
theorem dX0_add_33 : decode cX0_add 33 = .ok (.getfield 15, 3) := by decide +kernel
theorem dX0_add_36 : decode cX0_add 36 = .ok (.iconst 1, 1) := by decide +kernel
theorem dX0_add_37 : decode cX0_add 37 = .ok (.isub, 1) := by decide +kernel
theorem dX0_add_38 : decode cX0_add 38 = .ok (.ireturn, 1) := by decide +kernel
theorem dX0_likely_0 : decode cX0_likely 0 = .ok (.iconst 0, 1) := by decide +kernel
theorem dX0_likely_1 : decode cX0_likely 1 = .ok (.istore_n 1, 1) := by decide +kernel
theorem dX0_likely_2 : decode cX0_likely 2 = .ok (.iconst 0, 1) := by decide +kernel
theorem dX0_likely_3 : decode cX0_likely 3 = .ok (.istore_n 2, 1) := by decide +kernel
theorem dX0_likely_4 : decode cX0_likely 4 = .ok (.iload_n 2, 1) := by decide +kernel
theorem dX0_likely_5 : decode cX0_likely 5 = .ok (.aload_n 0, 1) := by decide +kernel
theorem dX0_likely_6 : decode cX0_likely 6 = .ok (.getfield 15, 3) := by decide +kernel
theorem dX0_likely_9 : decode cX0_likely 9 = .ok (.if_icmp .ge 31, 3) := by decide +kernel
theorem dX0_likely_12 : decode cX0_likely 12 = .ok (.aload_n 0, 1) := by decide +kernel
theorem dX0_likely_13 : decode cX0_likely 13 = .ok (.getfield 9, 3) := by decide +kernel
theorem dX0_likely_16 : decode cX0_likely 16 = .ok (.iload_n 2, 1) := by decide +kernel
theorem dX0_likely_17 : decode cX0_likely 17 = .ok (.iaload, 1) := by decide +kernel
theorem dX0_likely_18 : decode cX0_likely 18 = .ok (.aload_n 0, 1) := by decide +kernel
theorem dX0_likely_19 : decode cX0_likely 19 = .ok (.getfield 19, 3) := by decide +kernel
theorem dX0_likely_22 : decode cX0_likely 22 = .ok (.iconst (-1), 1) := by decide +kernel
theorem dX0_likely_23 : decode cX0_likely 23 = .ok (.ixor, 1) := by decide +kernel
theorem dX0_likely_24 : decode cX0_likely 24 = .ok (.iand, 1) := by decide +kernel
theorem dX0_likely_25 : decode cX0_likely 25 = .ok (.ifCond .ne 9, 3) := by decide +kernel
theorem dX0_likely_28 : decode cX0_likely 28 = .ok (.iload_n 1, 1) := by decide +kernel
theorem dX0_likely_29 : decode cX0_likely 29 = .ok (.iconst 1, 1) := by decide +kernel
theorem dX0_likely_30 : decode cX0_likely 30 = .ok (.iload_n 2, 1) := by decide +kernel
theorem dX0_likely_31 : decode cX0_likely 31 = .ok (.ishl, 1) := by decide +kernel
theorem dX0_likely_32 : decode cX0_likely 32 = .ok (.ior, 1) := by decide +kernel
theorem dX0_likely_33 : decode cX0_likely 33 = .ok (.istore_n 1, 1) := by decide +kernel
theorem dX0_likely_34 : decode cX0_likely 34 = .ok (.iinc 2 1, 3) := by decide +kernel
theorem dX0_likely_37 : decode cX0_likely 37 = .ok (.goto (-33), 3) := by decide +kernel
theorem dX0_likely_40 : decode cX0_likely 40 = .ok (.iload_n 1, 1) := by decide +kernel
theorem dX0_likely_41 : decode cX0_likely 41 = .ok (.ireturn, 1) := by decide +kernel
theorem dX0_madeBy_0 : decode cX0_madeBy 0 = .ok (.iconst 0, 1) := by decide +kernel
theorem dX0_madeBy_1 : decode cX0_madeBy 1 = .ok (.istore_n 2, 1) := by decide +kernel
theorem dX0_madeBy_2 : decode cX0_madeBy 2 = .ok (.iconst 0, 1) := by decide +kernel
theorem dX0_madeBy_3 : decode cX0_madeBy 3 = .ok (.istore_n 3, 1) := by decide +kernel
theorem dX0_madeBy_4 : decode cX0_madeBy 4 = .ok (.iload_n 3, 1) := by decide +kernel
theorem dX0_madeBy_5 : decode cX0_madeBy 5 = .ok (.aload_n 0, 1) := by decide +kernel
theorem dX0_madeBy_6 : decode cX0_madeBy 6 = .ok (.getfield 15, 3) := by decide +kernel
theorem dX0_madeBy_9 : decode cX0_madeBy 9 = .ok (.if_icmp .ge 27, 3) := by decide +kernel
theorem dX0_madeBy_12 : decode cX0_madeBy 12 = .ok (.iload_n 1, 1) := by decide +kernel
theorem dX0_madeBy_13 : decode cX0_madeBy 13 = .ok (.iload_n 3, 1) := by decide +kernel
theorem dX0_madeBy_14 : decode cX0_madeBy 14 = .ok (.ishr, 1) := by decide +kernel
theorem dX0_madeBy_15 : decode cX0_madeBy 15 = .ok (.iconst 1, 1) := by decide +kernel
theorem dX0_madeBy_16 : decode cX0_madeBy 16 = .ok (.iand, 1) := by decide +kernel
theorem dX0_madeBy_17 : decode cX0_madeBy 17 = .ok (.iconst 1, 1) := by decide +kernel
theorem dX0_madeBy_18 : decode cX0_madeBy 18 = .ok (.if_icmp .ne 12, 3) := by decide +kernel
theorem dX0_madeBy_21 : decode cX0_madeBy 21 = .ok (.iload_n 2, 1) := by decide +kernel
theorem dX0_madeBy_22 : decode cX0_madeBy 22 = .ok (.aload_n 0, 1) := by decide +kernel
theorem dX0_madeBy_23 : decode cX0_madeBy 23 = .ok (.getfield 9, 3) := by decide +kernel
theorem dX0_madeBy_26 : decode cX0_madeBy 26 = .ok (.iload_n 3, 1) := by decide +kernel
theorem dX0_madeBy_27 : decode cX0_madeBy 27 = .ok (.iaload, 1) := by decide +kernel
theorem dX0_madeBy_28 : decode cX0_madeBy 28 = .ok (.ior, 1) := by decide +kernel
theorem dX0_madeBy_29 : decode cX0_madeBy 29 = .ok (.istore_n 2, 1) := by decide +kernel
theorem dX0_madeBy_30 : decode cX0_madeBy 30 = .ok (.iinc 3 1, 3) := by decide +kernel
theorem dX0_madeBy_33 : decode cX0_madeBy 33 = .ok (.goto (-29), 3) := by decide +kernel
theorem dX0_madeBy_36 : decode cX0_madeBy 36 = .ok (.iload_n 2, 1) := by decide +kernel
theorem dX0_madeBy_37 : decode cX0_madeBy 37 = .ok (.ireturn, 1) := by decide +kernel
theorem dX0_fewest_0 : decode cX0_fewest 0 = .ok (.aload_n 0, 1) := by decide +kernel
theorem dX0_fewest_1 : decode cX0_fewest 1 = .ok (.invokevirtual 22, 3) := by decide +kernel
theorem dX0_fewest_4 : decode cX0_fewest 4 = .ok (.istore_n 1, 1) := by decide +kernel
theorem dX0_fewest_5 : decode cX0_fewest 5 = .ok (.bipush 11, 2) := by decide +kernel
theorem dX0_fewest_7 : decode cX0_fewest 7 = .ok (.istore_n 2, 1) := by decide +kernel
theorem dX0_fewest_8 : decode cX0_fewest 8 = .ok (.bipush (-4), 2) := by decide +kernel
theorem dX0_fewest_10 : decode cX0_fewest 10 = .ok (.istore_n 3, 1) := by decide +kernel
theorem dX0_fewest_11 : decode cX0_fewest 11 = .ok (.iconst 0, 1) := by decide +kernel
theorem dX0_fewest_12 : decode cX0_fewest 12 = .ok (.istore 4, 2) := by decide +kernel
theorem dX0_fewest_14 : decode cX0_fewest 14 = .ok (.iload 4, 2) := by decide +kernel
theorem dX0_fewest_16 : decode cX0_fewest 16 = .ok (.iconst 1, 1) := by decide +kernel
theorem dX0_fewest_17 : decode cX0_fewest 17 = .ok (.aload_n 0, 1) := by decide +kernel
theorem dX0_fewest_18 : decode cX0_fewest 18 = .ok (.getfield 15, 3) := by decide +kernel
theorem dX0_fewest_21 : decode cX0_fewest 21 = .ok (.ishl, 1) := by decide +kernel
theorem dX0_fewest_22 : decode cX0_fewest 22 = .ok (.if_icmp .ge 61, 3) := by decide +kernel
theorem dX0_fewest_25 : decode cX0_fewest 25 = .ok (.iload 4, 2) := by decide +kernel
theorem dX0_fewest_27 : decode cX0_fewest 27 = .ok (.invokestatic 26, 3) := by decide +kernel
theorem dX0_fewest_30 : decode cX0_fewest 30 = .ok (.iload_n 2, 1) := by decide +kernel
theorem dX0_fewest_31 : decode cX0_fewest 31 = .ok (.if_icmp .ge 7, 3) := by decide +kernel
theorem dX0_fewest_34 : decode cX0_fewest 34 = .ok (.iconst 1, 1) := by decide +kernel
theorem dX0_fewest_35 : decode cX0_fewest 35 = .ok (.goto 4, 3) := by decide +kernel
theorem dX0_fewest_38 : decode cX0_fewest 38 = .ok (.iconst 0, 1) := by decide +kernel
theorem dX0_fewest_39 : decode cX0_fewest 39 = .ok (.istore 5, 2) := by decide +kernel
theorem dX0_fewest_41 : decode cX0_fewest 41 = .ok (.iload 5, 2) := by decide +kernel
theorem dX0_fewest_43 : decode cX0_fewest 43 = .ok (.ifCond .eq 34, 3) := by decide +kernel
theorem dX0_fewest_46 : decode cX0_fewest 46 = .ok (.iload 4, 2) := by decide +kernel
theorem dX0_fewest_48 : decode cX0_fewest 48 = .ok (.iload_n 1, 1) := by decide +kernel
theorem dX0_fewest_49 : decode cX0_fewest 49 = .ok (.iconst (-1), 1) := by decide +kernel
theorem dX0_fewest_50 : decode cX0_fewest 50 = .ok (.ixor, 1) := by decide +kernel
theorem dX0_fewest_51 : decode cX0_fewest 51 = .ok (.iand, 1) := by decide +kernel
theorem dX0_fewest_52 : decode cX0_fewest 52 = .ok (.ifCond .ne 25, 3) := by decide +kernel
theorem dX0_fewest_55 : decode cX0_fewest 55 = .ok (.aload_n 0, 1) := by decide +kernel
theorem dX0_fewest_56 : decode cX0_fewest 56 = .ok (.iload 4, 2) := by decide +kernel
theorem dX0_fewest_58 : decode cX0_fewest 58 = .ok (.invokevirtual 32, 3) := by decide +kernel
theorem dX0_fewest_61 : decode cX0_fewest 61 = .ok (.aload_n 0, 1) := by decide +kernel
theorem dX0_fewest_62 : decode cX0_fewest 62 = .ok (.getfield 19, 3) := by decide +kernel
theorem dX0_fewest_65 : decode cX0_fewest 65 = .ok (.if_icmp .ne 12, 3) := by decide +kernel
theorem dX0_fewest_68 : decode cX0_fewest 68 = .ok (.iload 4, 2) := by decide +kernel
theorem dX0_fewest_70 : decode cX0_fewest 70 = .ok (.invokestatic 26, 3) := by decide +kernel
theorem dX0_fewest_73 : decode cX0_fewest 73 = .ok (.istore_n 2, 1) := by decide +kernel
theorem dX0_fewest_74 : decode cX0_fewest 74 = .ok (.iload 4, 2) := by decide +kernel
theorem dX0_fewest_76 : decode cX0_fewest 76 = .ok (.istore_n 3, 1) := by decide +kernel
theorem dX0_fewest_77 : decode cX0_fewest 77 = .ok (.iinc 4 1, 3) := by decide +kernel
theorem dX0_fewest_80 : decode cX0_fewest 80 = .ok (.goto (-66), 3) := by decide +kernel
theorem dX0_fewest_83 : decode cX0_fewest 83 = .ok (.iload_n 3, 1) := by decide +kernel
theorem dX0_fewest_84 : decode cX0_fewest 84 = .ok (.ireturn, 1) := by decide +kernel
theorem dX1_init_0 : decode cX1_init 0 = .ok (.aload_n 0, 1) := by decide +kernel
theorem dX1_init_1 : decode cX1_init 1 = .ok (.invokespecial 3, 3) := by decide +kernel
theorem dX1_init_4 : decode cX1_init 4 = .ok (.aload_n 0, 1) := by decide +kernel
theorem dX1_init_5 : decode cX1_init 5 = .ok (.bipush 16, 2) := by decide +kernel
theorem dX1_init_7 : decode cX1_init 7 = .ok (.newarray .int, 2) := by decide +kernel
theorem dX1_init_9 : decode cX1_init 9 = .ok (.putfield 9, 3) := by decide +kernel
theorem dX1_init_12 : decode cX1_init 12 = .ok (.aload_n 0, 1) := by decide +kernel
theorem dX1_init_13 : decode cX1_init 13 = .ok (.bipush 16, 2) := by decide +kernel
theorem dX1_init_15 : decode cX1_init 15 = .ok (.newarray .int, 2) := by decide +kernel
theorem dX1_init_17 : decode cX1_init 17 = .ok (.putfield 15, 3) := by decide +kernel
theorem dX1_init_20 : decode cX1_init 20 = .ok (.aload_n 0, 1) := by decide +kernel
theorem dX1_init_21 : decode cX1_init 21 = .ok (.iconst 2, 1) := by decide +kernel
theorem dX1_init_22 : decode cX1_init 22 = .ok (.bipush 8, 2) := by decide +kernel
theorem dX1_init_24 : decode cX1_init 24 = .ok (.multianewarray 18 2, 4) := by decide +kernel
theorem dX1_init_28 : decode cX1_init 28 = .ok (.putfield 20, 3) := by decide +kernel
theorem dX1_init_31 : decode cX1_init 31 = .ok (.aload_n 0, 1) := by decide +kernel
theorem dX1_init_32 : decode cX1_init 32 = .ok (.bipush 16, 2) := by decide +kernel
theorem dX1_init_34 : decode cX1_init 34 = .ok (.newarray .int, 2) := by decide +kernel
theorem dX1_init_36 : decode cX1_init 36 = .ok (.putfield 23, 3) := by decide +kernel
theorem dX1_init_39 : decode cX1_init 39 = .ok (.aload_n 0, 1) := by decide +kernel
theorem dX1_init_40 : decode cX1_init 40 = .ok (.iconst 0, 1) := by decide +kernel
theorem dX1_init_41 : decode cX1_init 41 = .ok (.putfield 26, 3) := by decide +kernel
theorem dX1_init_44 : decode cX1_init 44 = .ok (.aload_n 0, 1) := by decide +kernel
theorem dX1_init_45 : decode cX1_init 45 = .ok (.iconst 0, 1) := by decide +kernel
theorem dX1_init_46 : decode cX1_init 46 = .ok (.putfield 30, 3) := by decide +kernel
theorem dX1_init_49 : decode cX1_init 49 = .ok (.aload_n 0, 1) := by decide +kernel
theorem dX1_init_50 : decode cX1_init 50 = .ok (.getfield 20, 3) := by decide +kernel
theorem dX1_init_53 : decode cX1_init 53 = .ok (.iconst 0, 1) := by decide +kernel
theorem dX1_init_54 : decode cX1_init 54 = .ok (.aaload, 1) := by decide +kernel
theorem dX1_init_55 : decode cX1_init 55 = .ok (.bipush (-4), 2) := by decide +kernel
theorem dX1_init_57 : decode cX1_init 57 = .ok (.invokestatic 33, 3) := by decide +kernel
theorem dX1_init_60 : decode cX1_init 60 = .ok (.aload_n 0, 1) := by decide +kernel
theorem dX1_init_61 : decode cX1_init 61 = .ok (.getfield 20, 3) := by decide +kernel
theorem dX1_init_64 : decode cX1_init 64 = .ok (.iconst 1, 1) := by decide +kernel
theorem dX1_init_65 : decode cX1_init 65 = .ok (.aaload, 1) := by decide +kernel
theorem dX1_init_66 : decode cX1_init 66 = .ok (.bipush (-4), 2) := by decide +kernel
theorem dX1_init_68 : decode cX1_init 68 = .ok (.invokestatic 33, 3) := by decide +kernel
theorem dX1_init_71 : decode cX1_init 71 = .ok (.return_, 1) := by decide +kernel
theorem dX1_has_0 : decode cX1_has 0 = .ok (.iload_n 1, 1) := by decide +kernel
theorem dX1_has_1 : decode cX1_has 1 = .ok (.ifCond .lt 15, 3) := by decide +kernel
theorem dX1_has_4 : decode cX1_has 4 = .ok (.iload_n 1, 1) := by decide +kernel
theorem dX1_has_5 : decode cX1_has 5 = .ok (.aload_n 0, 1) := by decide +kernel
theorem dX1_has_6 : decode cX1_has 6 = .ok (.getfield 26, 3) := by decide +kernel
theorem dX1_has_9 : decode cX1_has 9 = .ok (.if_icmp .ge 7, 3) := by decide +kernel
theorem dX1_has_12 : decode cX1_has 12 = .ok (.iconst 1, 1) := by decide +kernel
theorem dX1_has_13 : decode cX1_has 13 = .ok (.goto 4, 3) := by decide +kernel
theorem dX1_has_16 : decode cX1_has 16 = .ok (.iconst 0, 1) := by decide +kernel
theorem dX1_has_17 : decode cX1_has 17 = .ok (.ireturn, 1) := by decide +kernel
theorem dX1_add_0 : decode cX1_add 0 = .ok (.aload_n 0, 1) := by decide +kernel
theorem dX1_add_1 : decode cX1_add 1 = .ok (.getfield 26, 3) := by decide +kernel
theorem dX1_add_4 : decode cX1_add 4 = .ok (.bipush 16, 2) := by decide +kernel
theorem dX1_add_6 : decode cX1_add 6 = .ok (.if_icmp .lt 6, 3) := by decide +kernel
theorem dX1_add_9 : decode cX1_add 9 = .ok (.bipush (-3), 2) := by decide +kernel
theorem dX1_add_11 : decode cX1_add 11 = .ok (.ireturn, 1) := by decide +kernel
theorem dX1_add_12 : decode cX1_add 12 = .ok (.aload_n 0, 1) := by decide +kernel
theorem dX1_add_13 : decode cX1_add 13 = .ok (.getfield 9, 3) := by decide +kernel
theorem dX1_add_16 : decode cX1_add 16 = .ok (.aload_n 0, 1) := by decide +kernel
theorem dX1_add_17 : decode cX1_add 17 = .ok (.getfield 26, 3) := by decide +kernel
theorem dX1_add_20 : decode cX1_add 20 = .ok (.iload_n 1, 1) := by decide +kernel
theorem dX1_add_21 : decode cX1_add 21 = .ok (.iastore, 1) := by decide +kernel
theorem dX1_add_22 : decode cX1_add 22 = .ok (.aload_n 0, 1) := by decide +kernel
theorem dX1_add_23 : decode cX1_add 23 = .ok (.getfield 15, 3) := by decide +kernel
theorem dX1_add_26 : decode cX1_add 26 = .ok (.aload_n 0, 1) := by decide +kernel
theorem dX1_add_27 : decode cX1_add 27 = .ok (.getfield 26, 3) := by decide +kernel
theorem dX1_add_30 : decode cX1_add 30 = .ok (.iload_n 2, 1) := by decide +kernel
theorem dX1_add_31 : decode cX1_add 31 = .ok (.iastore, 1) := by decide +kernel
theorem dX1_add_32 : decode cX1_add 32 = .ok (.aload_n 0, 1) := by decide +kernel
theorem dX1_add_33 : decode cX1_add 33 = .ok (.dup, 1) := by decide +kernel
theorem dX1_add_34 : decode cX1_add 34 = .ok (.getfield 26, 3) := by decide +kernel
theorem dX1_add_37 : decode cX1_add 37 = .ok (.iconst 1, 1) := by decide +kernel
theorem dX1_add_38 : decode cX1_add 38 = .ok (.iadd, 1) := by decide +kernel
theorem dX1_add_39 : decode cX1_add 39 = .ok (.putfield 26, 3) := by decide +kernel
theorem dX1_add_42 : decode cX1_add 42 = .ok (.aload_n 0, 1) := by decide +kernel
theorem dX1_add_43 : decode cX1_add 43 = .ok (.getfield 26, 3) := by decide +kernel
theorem dX1_add_46 : decode cX1_add 46 = .ok (.iconst 1, 1) := by decide +kernel
theorem dX1_add_47 : decode cX1_add 47 = .ok (.isub, 1) := by decide +kernel
theorem dX1_add_48 : decode cX1_add 48 = .ok (.ireturn, 1) := by decide +kernel
theorem dX1_isIn_0 : decode cX1_isIn 0 = .ok (.iload_n 1, 1) := by decide +kernel
theorem dX1_isIn_1 : decode cX1_isIn 1 = .ok (.ifCond .lt 16, 3) := by decide +kernel
theorem dX1_isIn_4 : decode cX1_isIn 4 = .ok (.iload_n 0, 1) := by decide +kernel
theorem dX1_isIn_5 : decode cX1_isIn 5 = .ok (.iload_n 1, 1) := by decide +kernel
theorem dX1_isIn_6 : decode cX1_isIn 6 = .ok (.ishr, 1) := by decide +kernel
theorem dX1_isIn_7 : decode cX1_isIn 7 = .ok (.iconst 1, 1) := by decide +kernel
theorem dX1_isIn_8 : decode cX1_isIn 8 = .ok (.iand, 1) := by decide +kernel
theorem dX1_isIn_9 : decode cX1_isIn 9 = .ok (.iconst 1, 1) := by decide +kernel
theorem dX1_isIn_10 : decode cX1_isIn 10 = .ok (.if_icmp .ne 7, 3) := by decide +kernel
theorem dX1_isIn_13 : decode cX1_isIn 13 = .ok (.iconst 1, 1) := by decide +kernel
theorem dX1_isIn_14 : decode cX1_isIn 14 = .ok (.goto 4, 3) := by decide +kernel
theorem dX1_isIn_17 : decode cX1_isIn 17 = .ok (.iconst 0, 1) := by decide +kernel
theorem dX1_isIn_18 : decode cX1_isIn 18 = .ok (.ireturn, 1) := by decide +kernel
theorem dX1_dead_0 : decode cX1_dead 0 = .ok (.iconst 0, 1) := by decide +kernel
theorem dX1_dead_1 : decode cX1_dead 1 = .ok (.istore_n 2, 1) := by decide +kernel
theorem dX1_dead_2 : decode cX1_dead 2 = .ok (.iconst 0, 1) := by decide +kernel
theorem dX1_dead_3 : decode cX1_dead 3 = .ok (.istore_n 3, 1) := by decide +kernel
theorem dX1_dead_4 : decode cX1_dead 4 = .ok (.iload_n 3, 1) := by decide +kernel
theorem dX1_dead_5 : decode cX1_dead 5 = .ok (.aload_n 0, 1) := by decide +kernel
theorem dX1_dead_6 : decode cX1_dead 6 = .ok (.getfield 26, 3) := by decide +kernel
theorem dX1_dead_9 : decode cX1_dead 9 = .ok (.if_icmp .ge 36, 3) := by decide +kernel
theorem dX1_dead_12 : decode cX1_dead 12 = .ok (.iload_n 1, 1) := by decide +kernel
theorem dX1_dead_13 : decode cX1_dead 13 = .ok (.iload_n 3, 1) := by decide +kernel
theorem dX1_dead_14 : decode cX1_dead 14 = .ok (.invokestatic 39, 3) := by decide +kernel
theorem dX1_dead_17 : decode cX1_dead 17 = .ok (.ifCond .ne 16, 3) := by decide +kernel
theorem dX1_dead_20 : decode cX1_dead 20 = .ok (.iload_n 2, 1) := by decide +kernel
theorem dX1_dead_21 : decode cX1_dead 21 = .ok (.aload_n 0, 1) := by decide +kernel
theorem dX1_dead_22 : decode cX1_dead 22 = .ok (.getfield 9, 3) := by decide +kernel
theorem dX1_dead_25 : decode cX1_dead 25 = .ok (.iload_n 3, 1) := by decide +kernel
theorem dX1_dead_26 : decode cX1_dead 26 = .ok (.iaload, 1) := by decide +kernel
theorem dX1_dead_27 : decode cX1_dead 27 = .ok (.invokestatic 39, 3) := by decide +kernel
theorem dX1_dead_30 : decode cX1_dead 30 = .ok (.ifCond .eq 9, 3) := by decide +kernel
theorem dX1_dead_33 : decode cX1_dead 33 = .ok (.iload_n 2, 1) := by decide +kernel
theorem dX1_dead_34 : decode cX1_dead 34 = .ok (.iconst 1, 1) := by decide +kernel
theorem dX1_dead_35 : decode cX1_dead 35 = .ok (.iload_n 3, 1) := by decide +kernel
theorem dX1_dead_36 : decode cX1_dead 36 = .ok (.ishl, 1) := by decide +kernel
theorem dX1_dead_37 : decode cX1_dead 37 = .ok (.ior, 1) := by decide +kernel
theorem dX1_dead_38 : decode cX1_dead 38 = .ok (.istore_n 2, 1) := by decide +kernel
theorem dX1_dead_39 : decode cX1_dead 39 = .ok (.iinc 3 1, 3) := by decide +kernel
theorem dX1_dead_42 : decode cX1_dead 42 = .ok (.goto (-38), 3) := by decide +kernel
theorem dX1_dead_45 : decode cX1_dead 45 = .ok (.iload_n 2, 1) := by decide +kernel
theorem dX1_dead_46 : decode cX1_dead 46 = .ok (.ireturn, 1) := by decide +kernel
theorem dX1_gives_0 : decode cX1_gives 0 = .ok (.aload_n 0, 1) := by decide +kernel
theorem dX1_gives_1 : decode cX1_gives 1 = .ok (.iload_n 1, 1) := by decide +kernel
theorem dX1_gives_2 : decode cX1_gives 2 = .ok (.invokevirtual 43, 3) := by decide +kernel
theorem dX1_gives_5 : decode cX1_gives 5 = .ok (.ifCond .eq 15, 3) := by decide +kernel
theorem dX1_gives_8 : decode cX1_gives 8 = .ok (.iload_n 2, 1) := by decide +kernel
theorem dX1_gives_9 : decode cX1_gives 9 = .ok (.iload_n 1, 1) := by decide +kernel
theorem dX1_gives_10 : decode cX1_gives 10 = .ok (.invokestatic 39, 3) := by decide +kernel
theorem dX1_gives_13 : decode cX1_gives 13 = .ok (.ifCond .ne 7, 3) := by decide +kernel
theorem dX1_gives_16 : decode cX1_gives 16 = .ok (.iconst 1, 1) := by decide +kernel
theorem dX1_gives_17 : decode cX1_gives 17 = .ok (.goto 4, 3) := by decide +kernel
theorem dX1_gives_20 : decode cX1_gives 20 = .ok (.iconst 0, 1) := by decide +kernel
theorem dX1_gives_21 : decode cX1_gives 21 = .ok (.ireturn, 1) := by decide +kernel
theorem dX1_flow_0 : decode cX1_flow 0 = .ok (.aload_n 0, 1) := by decide +kernel
theorem dX1_flow_1 : decode cX1_flow 1 = .ok (.getfield 23, 3) := by decide +kernel
theorem dX1_flow_4 : decode cX1_flow 4 = .ok (.iconst 0, 1) := by decide +kernel
theorem dX1_flow_5 : decode cX1_flow 5 = .ok (.invokestatic 33, 3) := by decide +kernel
theorem dX1_flow_8 : decode cX1_flow 8 = .ok (.iconst 0, 1) := by decide +kernel
theorem dX1_flow_9 : decode cX1_flow 9 = .ok (.istore_n 3, 1) := by decide +kernel
theorem dX1_flow_10 : decode cX1_flow 10 = .ok (.iload_n 3, 1) := by decide +kernel
theorem dX1_flow_11 : decode cX1_flow 11 = .ok (.aload_n 2, 1) := by decide +kernel
theorem dX1_flow_12 : decode cX1_flow 12 = .ok (.getfield 47, 3) := by decide +kernel
theorem dX1_flow_15 : decode cX1_flow 15 = .ok (.if_icmp .ge 21, 3) := by decide +kernel
theorem dX1_flow_18 : decode cX1_flow 18 = .ok (.aload_n 0, 1) := by decide +kernel
theorem dX1_flow_19 : decode cX1_flow 19 = .ok (.iload_n 3, 1) := by decide +kernel
theorem dX1_flow_20 : decode cX1_flow 20 = .ok (.aload_n 2, 1) := by decide +kernel
theorem dX1_flow_21 : decode cX1_flow 21 = .ok (.getfield 52, 3) := by decide +kernel
theorem dX1_flow_24 : decode cX1_flow 24 = .ok (.iload_n 3, 1) := by decide +kernel
theorem dX1_flow_25 : decode cX1_flow 25 = .ok (.iaload, 1) := by decide +kernel
theorem dX1_flow_26 : decode cX1_flow 26 = .ok (.iload_n 1, 1) := by decide +kernel
theorem dX1_flow_27 : decode cX1_flow 27 = .ok (.invokevirtual 55, 3) := by decide +kernel
theorem dX1_flow_30 : decode cX1_flow 30 = .ok (.iinc 3 1, 3) := by decide +kernel
theorem dX1_flow_33 : decode cX1_flow 33 = .ok (.goto (-23), 3) := by decide +kernel
theorem dX1_flow_36 : decode cX1_flow 36 = .ok (.aload_n 0, 1) := by decide +kernel
theorem dX1_flow_37 : decode cX1_flow 37 = .ok (.getfield 26, 3) := by decide +kernel
theorem dX1_flow_40 : decode cX1_flow 40 = .ok (.iconst 1, 1) := by decide +kernel
theorem dX1_flow_41 : decode cX1_flow 41 = .ok (.isub, 1) := by decide +kernel
theorem dX1_flow_42 : decode cX1_flow 42 = .ok (.istore_n 3, 1) := by decide +kernel
theorem dX1_flow_43 : decode cX1_flow 43 = .ok (.iload_n 3, 1) := by decide +kernel
theorem dX1_flow_44 : decode cX1_flow 44 = .ok (.ifCond .lt 42, 3) := by decide +kernel
theorem dX1_flow_47 : decode cX1_flow 47 = .ok (.aload_n 0, 1) := by decide +kernel
theorem dX1_flow_48 : decode cX1_flow 48 = .ok (.aload_n 0, 1) := by decide +kernel
theorem dX1_flow_49 : decode cX1_flow 49 = .ok (.getfield 9, 3) := by decide +kernel
theorem dX1_flow_52 : decode cX1_flow 52 = .ok (.iload_n 3, 1) := by decide +kernel
theorem dX1_flow_53 : decode cX1_flow 53 = .ok (.iaload, 1) := by decide +kernel
theorem dX1_flow_54 : decode cX1_flow 54 = .ok (.invokevirtual 43, 3) := by decide +kernel
theorem dX1_flow_57 : decode cX1_flow 57 = .ok (.ifCond .eq 23, 3) := by decide +kernel
theorem dX1_flow_60 : decode cX1_flow 60 = .ok (.aload_n 0, 1) := by decide +kernel
theorem dX1_flow_61 : decode cX1_flow 61 = .ok (.getfield 23, 3) := by decide +kernel
theorem dX1_flow_64 : decode cX1_flow 64 = .ok (.aload_n 0, 1) := by decide +kernel
theorem dX1_flow_65 : decode cX1_flow 65 = .ok (.getfield 9, 3) := by decide +kernel
theorem dX1_flow_68 : decode cX1_flow 68 = .ok (.iload_n 3, 1) := by decide +kernel
theorem dX1_flow_69 : decode cX1_flow 69 = .ok (.iaload, 1) := by decide +kernel
theorem dX1_flow_70 : decode cX1_flow 70 = .ok (.dup2, 1) := by decide +kernel
theorem dX1_flow_71 : decode cX1_flow 71 = .ok (.iaload, 1) := by decide +kernel
theorem dX1_flow_72 : decode cX1_flow 72 = .ok (.aload_n 0, 1) := by decide +kernel
theorem dX1_flow_73 : decode cX1_flow 73 = .ok (.getfield 23, 3) := by decide +kernel
theorem dX1_flow_76 : decode cX1_flow 76 = .ok (.iload_n 3, 1) := by decide +kernel
theorem dX1_flow_77 : decode cX1_flow 77 = .ok (.iaload, 1) := by decide +kernel
theorem dX1_flow_78 : decode cX1_flow 78 = .ok (.iadd, 1) := by decide +kernel
theorem dX1_flow_79 : decode cX1_flow 79 = .ok (.iastore, 1) := by decide +kernel
theorem dX1_flow_80 : decode cX1_flow 80 = .ok (.iinc 3 (-1), 3) := by decide +kernel
theorem dX1_flow_83 : decode cX1_flow 83 = .ok (.goto (-40), 3) := by decide +kernel
theorem dX1_flow_86 : decode cX1_flow 86 = .ok (.return_, 1) := by decide +kernel
theorem dX1_drawFor_0 : decode cX1_drawFor 0 = .ok (.aload_n 0, 1) := by decide +kernel
theorem dX1_drawFor_1 : decode cX1_drawFor 1 = .ok (.getfield 20, 3) := by decide +kernel
theorem dX1_drawFor_4 : decode cX1_drawFor 4 = .ok (.iconst 0, 1) := by decide +kernel
theorem dX1_drawFor_5 : decode cX1_drawFor 5 = .ok (.aaload, 1) := by decide +kernel
theorem dX1_drawFor_6 : decode cX1_drawFor 6 = .ok (.iload_n 1, 1) := by decide +kernel
theorem dX1_drawFor_7 : decode cX1_drawFor 7 = .ok (.iaload, 1) := by decide +kernel
theorem dX1_drawFor_8 : decode cX1_drawFor 8 = .ok (.istore 4, 2) := by decide +kernel
theorem dX1_drawFor_10 : decode cX1_drawFor 10 = .ok (.aload_n 0, 1) := by decide +kernel
theorem dX1_drawFor_11 : decode cX1_drawFor 11 = .ok (.getfield 20, 3) := by decide +kernel
theorem dX1_drawFor_14 : decode cX1_drawFor 14 = .ok (.iconst 1, 1) := by decide +kernel
theorem dX1_drawFor_15 : decode cX1_drawFor 15 = .ok (.aaload, 1) := by decide +kernel
theorem dX1_drawFor_16 : decode cX1_drawFor 16 = .ok (.iload_n 1, 1) := by decide +kernel
theorem dX1_drawFor_17 : decode cX1_drawFor 17 = .ok (.iaload, 1) := by decide +kernel
theorem dX1_drawFor_18 : decode cX1_drawFor 18 = .ok (.istore 5, 2) := by decide +kernel
theorem dX1_drawFor_20 : decode cX1_drawFor 20 = .ok (.aload_n 0, 1) := by decide +kernel
theorem dX1_drawFor_21 : decode cX1_drawFor 21 = .ok (.iload 4, 2) := by decide +kernel
theorem dX1_drawFor_23 : decode cX1_drawFor 23 = .ok (.iload_n 3, 1) := by decide +kernel
theorem dX1_drawFor_24 : decode cX1_drawFor 24 = .ok (.invokevirtual 59, 3) := by decide +kernel
theorem dX1_drawFor_27 : decode cX1_drawFor 27 = .ok (.istore 6, 2) := by decide +kernel
theorem dX1_drawFor_29 : decode cX1_drawFor 29 = .ok (.aload_n 0, 1) := by decide +kernel
theorem dX1_drawFor_30 : decode cX1_drawFor 30 = .ok (.iload 5, 2) := by decide +kernel
theorem dX1_drawFor_32 : decode cX1_drawFor 32 = .ok (.iload_n 3, 1) := by decide +kernel
theorem dX1_drawFor_33 : decode cX1_drawFor 33 = .ok (.invokevirtual 59, 3) := by decide +kernel
theorem dX1_drawFor_36 : decode cX1_drawFor 36 = .ok (.istore 7, 2) := by decide +kernel
theorem dX1_drawFor_38 : decode cX1_drawFor 38 = .ok (.iload_n 2, 1) := by decide +kernel
theorem dX1_drawFor_39 : decode cX1_drawFor 39 = .ok (.iconst 2, 1) := by decide +kernel
theorem dX1_drawFor_40 : decode cX1_drawFor 40 = .ok (.idiv, 1) := by decide +kernel
theorem dX1_drawFor_41 : decode cX1_drawFor 41 = .ok (.istore 8, 2) := by decide +kernel
theorem dX1_drawFor_43 : decode cX1_drawFor 43 = .ok (.iload 6, 2) := by decide +kernel
theorem dX1_drawFor_45 : decode cX1_drawFor 45 = .ok (.ifCond .eq 26, 3) := by decide +kernel
theorem dX1_drawFor_48 : decode cX1_drawFor 48 = .ok (.aload_n 0, 1) := by decide +kernel
theorem dX1_drawFor_49 : decode cX1_drawFor 49 = .ok (.getfield 23, 3) := by decide +kernel
theorem dX1_drawFor_52 : decode cX1_drawFor 52 = .ok (.iload 4, 2) := by decide +kernel
theorem dX1_drawFor_54 : decode cX1_drawFor 54 = .ok (.dup2, 1) := by decide +kernel
theorem dX1_drawFor_55 : decode cX1_drawFor 55 = .ok (.iaload, 1) := by decide +kernel
theorem dX1_drawFor_56 : decode cX1_drawFor 56 = .ok (.iload 7, 2) := by decide +kernel
theorem dX1_drawFor_58 : decode cX1_drawFor 58 = .ok (.ifCond .eq 10, 3) := by decide +kernel
theorem dX1_drawFor_61 : decode cX1_drawFor 61 = .ok (.iload_n 2, 1) := by decide +kernel
theorem dX1_drawFor_62 : decode cX1_drawFor 62 = .ok (.iload 8, 2) := by decide +kernel
theorem dX1_drawFor_64 : decode cX1_drawFor 64 = .ok (.isub, 1) := by decide +kernel
theorem dX1_drawFor_65 : decode cX1_drawFor 65 = .ok (.goto 4, 3) := by decide +kernel
theorem dX1_drawFor_68 : decode cX1_drawFor 68 = .ok (.iload_n 2, 1) := by decide +kernel
theorem dX1_drawFor_69 : decode cX1_drawFor 69 = .ok (.iadd, 1) := by decide +kernel
theorem dX1_drawFor_70 : decode cX1_drawFor 70 = .ok (.iastore, 1) := by decide +kernel
theorem dX1_drawFor_71 : decode cX1_drawFor 71 = .ok (.iload 7, 2) := by decide +kernel
theorem dX1_drawFor_73 : decode cX1_drawFor 73 = .ok (.ifCond .eq 24, 3) := by decide +kernel
theorem dX1_drawFor_76 : decode cX1_drawFor 76 = .ok (.aload_n 0, 1) := by decide +kernel
theorem dX1_drawFor_77 : decode cX1_drawFor 77 = .ok (.getfield 23, 3) := by decide +kernel
theorem dX1_drawFor_80 : decode cX1_drawFor 80 = .ok (.iload 5, 2) := by decide +kernel
theorem dX1_drawFor_82 : decode cX1_drawFor 82 = .ok (.dup2, 1) := by decide +kernel
theorem dX1_drawFor_83 : decode cX1_drawFor 83 = .ok (.iaload, 1) := by decide +kernel
theorem dX1_drawFor_84 : decode cX1_drawFor 84 = .ok (.iload 6, 2) := by decide +kernel
theorem dX1_drawFor_86 : decode cX1_drawFor 86 = .ok (.ifCond .eq 8, 3) := by decide +kernel
theorem dX1_drawFor_89 : decode cX1_drawFor 89 = .ok (.iload 8, 2) := by decide +kernel
theorem dX1_drawFor_91 : decode cX1_drawFor 91 = .ok (.goto 4, 3) := by decide +kernel
theorem dX1_drawFor_94 : decode cX1_drawFor 94 = .ok (.iload_n 2, 1) := by decide +kernel
theorem dX1_drawFor_95 : decode cX1_drawFor 95 = .ok (.iadd, 1) := by decide +kernel
theorem dX1_drawFor_96 : decode cX1_drawFor 96 = .ok (.iastore, 1) := by decide +kernel
theorem dX1_drawFor_97 : decode cX1_drawFor 97 = .ok (.return_, 1) := by decide +kernel
theorem dX1_over_0 : decode cX1_over 0 = .ok (.aload_n 0, 1) := by decide +kernel
theorem dX1_over_1 : decode cX1_over 1 = .ok (.iload_n 1, 1) := by decide +kernel
theorem dX1_over_2 : decode cX1_over 2 = .ok (.aload_n 2, 1) := by decide +kernel
theorem dX1_over_3 : decode cX1_over 3 = .ok (.invokevirtual 62, 3) := by decide +kernel
theorem dX1_over_6 : decode cX1_over 6 = .ok (.iconst 0, 1) := by decide +kernel
theorem dX1_over_7 : decode cX1_over 7 = .ok (.istore_n 3, 1) := by decide +kernel
theorem dX1_over_8 : decode cX1_over 8 = .ok (.iconst 0, 1) := by decide +kernel
theorem dX1_over_9 : decode cX1_over 9 = .ok (.istore 4, 2) := by decide +kernel
theorem dX1_over_11 : decode cX1_over 11 = .ok (.iload 4, 2) := by decide +kernel
theorem dX1_over_13 : decode cX1_over 13 = .ok (.aload_n 0, 1) := by decide +kernel
theorem dX1_over_14 : decode cX1_over 14 = .ok (.getfield 26, 3) := by decide +kernel
theorem dX1_over_17 : decode cX1_over 17 = .ok (.if_icmp .ge 33, 3) := by decide +kernel
theorem dX1_over_20 : decode cX1_over 20 = .ok (.aload_n 0, 1) := by decide +kernel
theorem dX1_over_21 : decode cX1_over 21 = .ok (.getfield 23, 3) := by decide +kernel
theorem dX1_over_24 : decode cX1_over 24 = .ok (.iload 4, 2) := by decide +kernel
theorem dX1_over_26 : decode cX1_over 26 = .ok (.iaload, 1) := by decide +kernel
theorem dX1_over_27 : decode cX1_over 27 = .ok (.aload_n 0, 1) := by decide +kernel
theorem dX1_over_28 : decode cX1_over 28 = .ok (.getfield 15, 3) := by decide +kernel
theorem dX1_over_31 : decode cX1_over 31 = .ok (.iload 4, 2) := by decide +kernel
theorem dX1_over_33 : decode cX1_over 33 = .ok (.iaload, 1) := by decide +kernel
theorem dX1_over_34 : decode cX1_over 34 = .ok (.if_icmp .le 10, 3) := by decide +kernel
theorem dX1_over_37 : decode cX1_over 37 = .ok (.iload_n 3, 1) := by decide +kernel
theorem dX1_over_38 : decode cX1_over 38 = .ok (.iconst 1, 1) := by decide +kernel
theorem dX1_over_39 : decode cX1_over 39 = .ok (.iload 4, 2) := by decide +kernel
theorem dX1_over_41 : decode cX1_over 41 = .ok (.ishl, 1) := by decide +kernel
theorem dX1_over_42 : decode cX1_over 42 = .ok (.ior, 1) := by decide +kernel
theorem dX1_over_43 : decode cX1_over 43 = .ok (.istore_n 3, 1) := by decide +kernel
theorem dX1_over_44 : decode cX1_over 44 = .ok (.iinc 4 1, 3) := by decide +kernel
theorem dX1_over_47 : decode cX1_over 47 = .ok (.goto (-36), 3) := by decide +kernel
theorem dX1_over_50 : decode cX1_over 50 = .ok (.iload_n 3, 1) := by decide +kernel
theorem dX1_over_51 : decode cX1_over 51 = .ok (.ireturn, 1) := by decide +kernel
theorem dX1_dark_0 : decode cX1_dark 0 = .ok (.iconst 0, 1) := by decide +kernel
theorem dX1_dark_1 : decode cX1_dark 1 = .ok (.istore_n 3, 1) := by decide +kernel
theorem dX1_dark_2 : decode cX1_dark 2 = .ok (.iconst 0, 1) := by decide +kernel
theorem dX1_dark_3 : decode cX1_dark 3 = .ok (.istore 4, 2) := by decide +kernel
theorem dX1_dark_5 : decode cX1_dark 5 = .ok (.iload 4, 2) := by decide +kernel
theorem dX1_dark_7 : decode cX1_dark 7 = .ok (.aload_n 2, 1) := by decide +kernel
theorem dX1_dark_8 : decode cX1_dark 8 = .ok (.getfield 47, 3) := by decide +kernel
theorem dX1_dark_11 : decode cX1_dark 11 = .ok (.if_icmp .ge 50, 3) := by decide +kernel
theorem dX1_dark_14 : decode cX1_dark 14 = .ok (.aload_n 0, 1) := by decide +kernel
theorem dX1_dark_15 : decode cX1_dark 15 = .ok (.aload_n 0, 1) := by decide +kernel
theorem dX1_dark_16 : decode cX1_dark 16 = .ok (.getfield 20, 3) := by decide +kernel
theorem dX1_dark_19 : decode cX1_dark 19 = .ok (.iconst 0, 1) := by decide +kernel
theorem dX1_dark_20 : decode cX1_dark 20 = .ok (.aaload, 1) := by decide +kernel
theorem dX1_dark_21 : decode cX1_dark 21 = .ok (.iload 4, 2) := by decide +kernel
theorem dX1_dark_23 : decode cX1_dark 23 = .ok (.iaload, 1) := by decide +kernel
theorem dX1_dark_24 : decode cX1_dark 24 = .ok (.iload_n 1, 1) := by decide +kernel
theorem dX1_dark_25 : decode cX1_dark 25 = .ok (.invokevirtual 59, 3) := by decide +kernel
theorem dX1_dark_28 : decode cX1_dark 28 = .ok (.ifCond .ne 27, 3) := by decide +kernel
theorem dX1_dark_31 : decode cX1_dark 31 = .ok (.aload_n 0, 1) := by decide +kernel
theorem dX1_dark_32 : decode cX1_dark 32 = .ok (.aload_n 0, 1) := by decide +kernel
theorem dX1_dark_33 : decode cX1_dark 33 = .ok (.getfield 20, 3) := by decide +kernel
theorem dX1_dark_36 : decode cX1_dark 36 = .ok (.iconst 1, 1) := by decide +kernel
theorem dX1_dark_37 : decode cX1_dark 37 = .ok (.aaload, 1) := by decide +kernel
theorem dX1_dark_38 : decode cX1_dark 38 = .ok (.iload 4, 2) := by decide +kernel
theorem dX1_dark_40 : decode cX1_dark 40 = .ok (.iaload, 1) := by decide +kernel
theorem dX1_dark_41 : decode cX1_dark 41 = .ok (.iload_n 1, 1) := by decide +kernel
theorem dX1_dark_42 : decode cX1_dark 42 = .ok (.invokevirtual 59, 3) := by decide +kernel
theorem dX1_dark_45 : decode cX1_dark 45 = .ok (.ifCond .ne 10, 3) := by decide +kernel
theorem dX1_dark_48 : decode cX1_dark 48 = .ok (.iload_n 3, 1) := by decide +kernel
theorem dX1_dark_49 : decode cX1_dark 49 = .ok (.iconst 1, 1) := by decide +kernel
theorem dX1_dark_50 : decode cX1_dark 50 = .ok (.iload 4, 2) := by decide +kernel
theorem dX1_dark_52 : decode cX1_dark 52 = .ok (.ishl, 1) := by decide +kernel
theorem dX1_dark_53 : decode cX1_dark 53 = .ok (.ior, 1) := by decide +kernel
theorem dX1_dark_54 : decode cX1_dark 54 = .ok (.istore_n 3, 1) := by decide +kernel
theorem dX1_dark_55 : decode cX1_dark 55 = .ok (.iinc 4 1, 3) := by decide +kernel
theorem dX1_dark_58 : decode cX1_dark 58 = .ok (.goto (-53), 3) := by decide +kernel
theorem dX1_dark_61 : decode cX1_dark 61 = .ok (.iload_n 3, 1) := by decide +kernel
theorem dX1_dark_62 : decode cX1_dark 62 = .ok (.ireturn, 1) := by decide +kernel
theorem dX1_firstWeak_0 : decode cX1_firstWeak 0 = .ok (.aload_n 0, 1) := by decide +kernel
theorem dX1_firstWeak_1 : decode cX1_firstWeak 1 = .ok (.aload_n 0, 1) := by decide +kernel
theorem dX1_firstWeak_2 : decode cX1_firstWeak 2 = .ok (.getfield 30, 3) := by decide +kernel
theorem dX1_firstWeak_5 : decode cX1_firstWeak 5 = .ok (.invokevirtual 66, 3) := by decide +kernel
theorem dX1_firstWeak_8 : decode cX1_firstWeak 8 = .ok (.istore_n 2, 1) := by decide +kernel
theorem dX1_firstWeak_9 : decode cX1_firstWeak 9 = .ok (.aload_n 0, 1) := by decide +kernel
theorem dX1_firstWeak_10 : decode cX1_firstWeak 10 = .ok (.iload_n 2, 1) := by decide +kernel
theorem dX1_firstWeak_11 : decode cX1_firstWeak 11 = .ok (.aload_n 1, 1) := by decide +kernel
theorem dX1_firstWeak_12 : decode cX1_firstWeak 12 = .ok (.invokevirtual 70, 3) := by decide +kernel
theorem dX1_firstWeak_15 : decode cX1_firstWeak 15 = .ok (.istore_n 3, 1) := by decide +kernel
theorem dX1_firstWeak_16 : decode cX1_firstWeak 16 = .ok (.aload_n 0, 1) := by decide +kernel
theorem dX1_firstWeak_17 : decode cX1_firstWeak 17 = .ok (.iload_n 2, 1) := by decide +kernel
theorem dX1_firstWeak_18 : decode cX1_firstWeak 18 = .ok (.aload_n 1, 1) := by decide +kernel
theorem dX1_firstWeak_19 : decode cX1_firstWeak 19 = .ok (.invokevirtual 74, 3) := by decide +kernel
theorem dX1_firstWeak_22 : decode cX1_firstWeak 22 = .ok (.istore 4, 2) := by decide +kernel
theorem dX1_firstWeak_24 : decode cX1_firstWeak 24 = .ok (.iconst 0, 1) := by decide +kernel
theorem dX1_firstWeak_25 : decode cX1_firstWeak 25 = .ok (.istore 5, 2) := by decide +kernel
theorem dX1_firstWeak_27 : decode cX1_firstWeak 27 = .ok (.iload 5, 2) := by decide +kernel
theorem dX1_firstWeak_29 : decode cX1_firstWeak 29 = .ok (.aload_n 0, 1) := by decide +kernel
theorem dX1_firstWeak_30 : decode cX1_firstWeak 30 = .ok (.getfield 26, 3) := by decide +kernel
theorem dX1_firstWeak_33 : decode cX1_firstWeak 33 = .ok (.if_icmp .ge 80, 3) := by decide +kernel
theorem dX1_firstWeak_36 : decode cX1_firstWeak 36 = .ok (.aload_n 0, 1) := by decide +kernel
theorem dX1_firstWeak_37 : decode cX1_firstWeak 37 = .ok (.aload_n 0, 1) := by decide +kernel
theorem dX1_firstWeak_38 : decode cX1_firstWeak 38 = .ok (.getfield 30, 3) := by decide +kernel
theorem dX1_firstWeak_41 : decode cX1_firstWeak 41 = .ok (.iconst 1, 1) := by decide +kernel
theorem dX1_firstWeak_42 : decode cX1_firstWeak 42 = .ok (.iload 5, 2) := by decide +kernel
theorem dX1_firstWeak_44 : decode cX1_firstWeak 44 = .ok (.ishl, 1) := by decide +kernel
theorem dX1_firstWeak_45 : decode cX1_firstWeak 45 = .ok (.ior, 1) := by decide +kernel
theorem dX1_firstWeak_46 : decode cX1_firstWeak 46 = .ok (.invokevirtual 66, 3) := by decide +kernel
theorem dX1_firstWeak_49 : decode cX1_firstWeak 49 = .ok (.istore 6, 2) := by decide +kernel
theorem dX1_firstWeak_51 : decode cX1_firstWeak 51 = .ok (.aload_n 0, 1) := by decide +kernel
theorem dX1_firstWeak_52 : decode cX1_firstWeak 52 = .ok (.iload 6, 2) := by decide +kernel
theorem dX1_firstWeak_54 : decode cX1_firstWeak 54 = .ok (.aload_n 1, 1) := by decide +kernel
theorem dX1_firstWeak_55 : decode cX1_firstWeak 55 = .ok (.invokevirtual 70, 3) := by decide +kernel
theorem dX1_firstWeak_58 : decode cX1_firstWeak 58 = .ok (.iload_n 3, 1) := by decide +kernel
theorem dX1_firstWeak_59 : decode cX1_firstWeak 59 = .ok (.iconst (-1), 1) := by decide +kernel
theorem dX1_firstWeak_60 : decode cX1_firstWeak 60 = .ok (.ixor, 1) := by decide +kernel
theorem dX1_firstWeak_61 : decode cX1_firstWeak 61 = .ok (.iand, 1) := by decide +kernel
theorem dX1_firstWeak_62 : decode cX1_firstWeak 62 = .ok (.ifCond .eq 7, 3) := by decide +kernel
theorem dX1_firstWeak_65 : decode cX1_firstWeak 65 = .ok (.iconst 1, 1) := by decide +kernel
theorem dX1_firstWeak_66 : decode cX1_firstWeak 66 = .ok (.goto 4, 3) := by decide +kernel
theorem dX1_firstWeak_69 : decode cX1_firstWeak 69 = .ok (.iconst 0, 1) := by decide +kernel
theorem dX1_firstWeak_70 : decode cX1_firstWeak 70 = .ok (.istore 7, 2) := by decide +kernel
theorem dX1_firstWeak_72 : decode cX1_firstWeak 72 = .ok (.aload_n 0, 1) := by decide +kernel
theorem dX1_firstWeak_73 : decode cX1_firstWeak 73 = .ok (.iload 6, 2) := by decide +kernel
theorem dX1_firstWeak_75 : decode cX1_firstWeak 75 = .ok (.aload_n 1, 1) := by decide +kernel
theorem dX1_firstWeak_76 : decode cX1_firstWeak 76 = .ok (.invokevirtual 74, 3) := by decide +kernel
theorem dX1_firstWeak_79 : decode cX1_firstWeak 79 = .ok (.iload 4, 2) := by decide +kernel
theorem dX1_firstWeak_81 : decode cX1_firstWeak 81 = .ok (.iconst (-1), 1) := by decide +kernel
theorem dX1_firstWeak_82 : decode cX1_firstWeak 82 = .ok (.ixor, 1) := by decide +kernel
theorem dX1_firstWeak_83 : decode cX1_firstWeak 83 = .ok (.iand, 1) := by decide +kernel
theorem dX1_firstWeak_84 : decode cX1_firstWeak 84 = .ok (.ifCond .eq 7, 3) := by decide +kernel
theorem dX1_firstWeak_87 : decode cX1_firstWeak 87 = .ok (.iconst 1, 1) := by decide +kernel
theorem dX1_firstWeak_88 : decode cX1_firstWeak 88 = .ok (.goto 4, 3) := by decide +kernel
theorem dX1_firstWeak_91 : decode cX1_firstWeak 91 = .ok (.iconst 0, 1) := by decide +kernel
theorem dX1_firstWeak_92 : decode cX1_firstWeak 92 = .ok (.istore 8, 2) := by decide +kernel
theorem dX1_firstWeak_94 : decode cX1_firstWeak 94 = .ok (.iload 7, 2) := by decide +kernel
theorem dX1_firstWeak_96 : decode cX1_firstWeak 96 = .ok (.ifCond .ne 8, 3) := by decide +kernel
theorem dX1_firstWeak_99 : decode cX1_firstWeak 99 = .ok (.iload 8, 2) := by decide +kernel
theorem dX1_firstWeak_101 : decode cX1_firstWeak 101 = .ok (.ifCond .eq 6, 3) := by decide +kernel
theorem dX1_firstWeak_104 : decode cX1_firstWeak 104 = .ok (.iload 5, 2) := by decide +kernel
theorem dX1_firstWeak_106 : decode cX1_firstWeak 106 = .ok (.ireturn, 1) := by decide +kernel
theorem dX1_firstWeak_107 : decode cX1_firstWeak 107 = .ok (.iinc 5 1, 3) := by decide +kernel
theorem dX1_firstWeak_110 : decode cX1_firstWeak 110 = .ok (.goto (-83), 3) := by decide +kernel
theorem dX1_firstWeak_113 : decode cX1_firstWeak 113 = .ok (.bipush (-4), 2) := by decide +kernel
theorem dX1_firstWeak_115 : decode cX1_firstWeak 115 = .ok (.ireturn, 1) := by decide +kernel
theorem dX2_init_0 : decode cX2_init 0 = .ok (.aload_n 0, 1) := by decide +kernel
theorem dX2_init_1 : decode cX2_init 1 = .ok (.invokespecial 3, 3) := by decide +kernel
theorem dX2_init_4 : decode cX2_init 4 = .ok (.aload_n 0, 1) := by decide +kernel
theorem dX2_init_5 : decode cX2_init 5 = .ok (.bipush 8, 2) := by decide +kernel
theorem dX2_init_7 : decode cX2_init 7 = .ok (.newarray .int, 2) := by decide +kernel
theorem dX2_init_9 : decode cX2_init 9 = .ok (.putfield 9, 3) := by decide +kernel
theorem dX2_init_12 : decode cX2_init 12 = .ok (.aload_n 0, 1) := by decide +kernel
theorem dX2_init_13 : decode cX2_init 13 = .ok (.bipush 8, 2) := by decide +kernel
theorem dX2_init_15 : decode cX2_init 15 = .ok (.newarray .int, 2) := by decide +kernel
theorem dX2_init_17 : decode cX2_init 17 = .ok (.putfield 15, 3) := by decide +kernel
theorem dX2_init_20 : decode cX2_init 20 = .ok (.aload_n 0, 1) := by decide +kernel
theorem dX2_init_21 : decode cX2_init 21 = .ok (.bipush 8, 2) := by decide +kernel
theorem dX2_init_23 : decode cX2_init 23 = .ok (.newarray .int, 2) := by decide +kernel
theorem dX2_init_25 : decode cX2_init 25 = .ok (.putfield 18, 3) := by decide +kernel
theorem dX2_init_28 : decode cX2_init 28 = .ok (.aload_n 0, 1) := by decide +kernel
theorem dX2_init_29 : decode cX2_init 29 = .ok (.bipush 8, 2) := by decide +kernel
theorem dX2_init_31 : decode cX2_init 31 = .ok (.newarray .int, 2) := by decide +kernel
theorem dX2_init_33 : decode cX2_init 33 = .ok (.putfield 21, 3) := by decide +kernel
theorem dX2_init_36 : decode cX2_init 36 = .ok (.aload_n 0, 1) := by decide +kernel
theorem dX2_init_37 : decode cX2_init 37 = .ok (.bipush 8, 2) := by decide +kernel
theorem dX2_init_39 : decode cX2_init 39 = .ok (.bipush 8, 2) := by decide +kernel
theorem dX2_init_41 : decode cX2_init 41 = .ok (.multianewarray 24 2, 4) := by decide +kernel
theorem dX2_init_45 : decode cX2_init 45 = .ok (.putfield 26, 3) := by decide +kernel
theorem dX2_init_48 : decode cX2_init 48 = .ok (.aload_n 0, 1) := by decide +kernel
theorem dX2_init_49 : decode cX2_init 49 = .ok (.iconst 0, 1) := by decide +kernel
theorem dX2_init_50 : decode cX2_init 50 = .ok (.putfield 29, 3) := by decide +kernel
theorem dX2_init_53 : decode cX2_init 53 = .ok (.aload_n 0, 1) := by decide +kernel
theorem dX2_init_54 : decode cX2_init 54 = .ok (.bipush 20, 2) := by decide +kernel
theorem dX2_init_56 : decode cX2_init 56 = .ok (.putfield 33, 3) := by decide +kernel
theorem dX2_init_59 : decode cX2_init 59 = .ok (.aload_n 0, 1) := by decide +kernel
theorem dX2_init_60 : decode cX2_init 60 = .ok (.iconst 1, 1) := by decide +kernel
theorem dX2_init_61 : decode cX2_init 61 = .ok (.putfield 36, 3) := by decide +kernel
theorem dX2_init_64 : decode cX2_init 64 = .ok (.return_, 1) := by decide +kernel
theorem dX2_has_0 : decode cX2_has 0 = .ok (.iload_n 1, 1) := by decide +kernel
theorem dX2_has_1 : decode cX2_has 1 = .ok (.ifCond .lt 15, 3) := by decide +kernel
theorem dX2_has_4 : decode cX2_has 4 = .ok (.iload_n 1, 1) := by decide +kernel
theorem dX2_has_5 : decode cX2_has 5 = .ok (.aload_n 0, 1) := by decide +kernel
theorem dX2_has_6 : decode cX2_has 6 = .ok (.getfield 29, 3) := by decide +kernel
theorem dX2_has_9 : decode cX2_has 9 = .ok (.if_icmp .ge 7, 3) := by decide +kernel
theorem dX2_has_12 : decode cX2_has 12 = .ok (.iconst 1, 1) := by decide +kernel
theorem dX2_has_13 : decode cX2_has 13 = .ok (.goto 4, 3) := by decide +kernel
theorem dX2_has_16 : decode cX2_has 16 = .ok (.iconst 0, 1) := by decide +kernel
theorem dX2_has_17 : decode cX2_has 17 = .ok (.ireturn, 1) := by decide +kernel
theorem dX2_add_0 : decode cX2_add 0 = .ok (.aload_n 0, 1) := by decide +kernel
theorem dX2_add_1 : decode cX2_add 1 = .ok (.getfield 29, 3) := by decide +kernel
theorem dX2_add_4 : decode cX2_add 4 = .ok (.bipush 8, 2) := by decide +kernel
theorem dX2_add_6 : decode cX2_add 6 = .ok (.if_icmp .lt 6, 3) := by decide +kernel
theorem dX2_add_9 : decode cX2_add 9 = .ok (.bipush (-3), 2) := by decide +kernel
theorem dX2_add_11 : decode cX2_add 11 = .ok (.ireturn, 1) := by decide +kernel
theorem dX2_add_12 : decode cX2_add 12 = .ok (.aload_n 0, 1) := by decide +kernel
theorem dX2_add_13 : decode cX2_add 13 = .ok (.getfield 9, 3) := by decide +kernel
theorem dX2_add_16 : decode cX2_add 16 = .ok (.aload_n 0, 1) := by decide +kernel
theorem dX2_add_17 : decode cX2_add 17 = .ok (.getfield 29, 3) := by decide +kernel
theorem dX2_add_20 : decode cX2_add 20 = .ok (.iload_n 1, 1) := by decide +kernel
theorem dX2_add_21 : decode cX2_add 21 = .ok (.iastore, 1) := by decide +kernel
theorem dX2_add_22 : decode cX2_add 22 = .ok (.aload_n 0, 1) := by decide +kernel
theorem dX2_add_23 : decode cX2_add 23 = .ok (.getfield 15, 3) := by decide +kernel
theorem dX2_add_26 : decode cX2_add 26 = .ok (.aload_n 0, 1) := by decide +kernel
theorem dX2_add_27 : decode cX2_add 27 = .ok (.getfield 29, 3) := by decide +kernel
theorem dX2_add_30 : decode cX2_add 30 = .ok (.iload_n 2, 1) := by decide +kernel
theorem dX2_add_31 : decode cX2_add 31 = .ok (.iastore, 1) := by decide +kernel
theorem dX2_add_32 : decode cX2_add 32 = .ok (.aload_n 0, 1) := by decide +kernel
theorem dX2_add_33 : decode cX2_add 33 = .ok (.getfield 18, 3) := by decide +kernel
theorem dX2_add_36 : decode cX2_add 36 = .ok (.aload_n 0, 1) := by decide +kernel
theorem dX2_add_37 : decode cX2_add 37 = .ok (.getfield 29, 3) := by decide +kernel
theorem dX2_add_40 : decode cX2_add 40 = .ok (.iload_n 3, 1) := by decide +kernel
theorem dX2_add_41 : decode cX2_add 41 = .ok (.iastore, 1) := by decide +kernel
theorem dX2_add_42 : decode cX2_add 42 = .ok (.aload_n 0, 1) := by decide +kernel
theorem dX2_add_43 : decode cX2_add 43 = .ok (.getfield 21, 3) := by decide +kernel
theorem dX2_add_46 : decode cX2_add 46 = .ok (.aload_n 0, 1) := by decide +kernel
theorem dX2_add_47 : decode cX2_add 47 = .ok (.getfield 29, 3) := by decide +kernel
theorem dX2_add_50 : decode cX2_add 50 = .ok (.iload 4, 2) := by decide +kernel
theorem dX2_add_52 : decode cX2_add 52 = .ok (.iastore, 1) := by decide +kernel
theorem dX2_add_53 : decode cX2_add 53 = .ok (.aload_n 0, 1) := by decide +kernel
theorem dX2_add_54 : decode cX2_add 54 = .ok (.dup, 1) := by decide +kernel
theorem dX2_add_55 : decode cX2_add 55 = .ok (.getfield 29, 3) := by decide +kernel
theorem dX2_add_58 : decode cX2_add 58 = .ok (.iconst 1, 1) := by decide +kernel
theorem dX2_add_59 : decode cX2_add 59 = .ok (.iadd, 1) := by decide +kernel
theorem dX2_add_60 : decode cX2_add 60 = .ok (.putfield 29, 3) := by decide +kernel
theorem dX2_add_63 : decode cX2_add 63 = .ok (.aload_n 0, 1) := by decide +kernel
theorem dX2_add_64 : decode cX2_add 64 = .ok (.getfield 29, 3) := by decide +kernel
theorem dX2_add_67 : decode cX2_add 67 = .ok (.iconst 1, 1) := by decide +kernel
theorem dX2_add_68 : decode cX2_add 68 = .ok (.isub, 1) := by decide +kernel
theorem dX2_add_69 : decode cX2_add 69 = .ok (.ireturn, 1) := by decide +kernel
theorem dX2_takeShares_0 : decode cX2_takeShares 0 = .ok (.iconst 0, 1) := by decide +kernel
theorem dX2_takeShares_1 : decode cX2_takeShares 1 = .ok (.istore_n 3, 1) := by decide +kernel
theorem dX2_takeShares_2 : decode cX2_takeShares 2 = .ok (.iload_n 3, 1) := by decide +kernel
theorem dX2_takeShares_3 : decode cX2_takeShares 3 = .ok (.aload_n 0, 1) := by decide +kernel
theorem dX2_takeShares_4 : decode cX2_takeShares 4 = .ok (.getfield 29, 3) := by decide +kernel
theorem dX2_takeShares_7 : decode cX2_takeShares 7 = .ok (.if_icmp .ge 50, 3) := by decide +kernel
theorem dX2_takeShares_10 : decode cX2_takeShares 10 = .ok (.iconst 0, 1) := by decide +kernel
theorem dX2_takeShares_11 : decode cX2_takeShares 11 = .ok (.istore 4, 2) := by decide +kernel
theorem dX2_takeShares_13 : decode cX2_takeShares 13 = .ok (.iload 4, 2) := by decide +kernel
theorem dX2_takeShares_15 : decode cX2_takeShares 15 = .ok (.aload_n 0, 1) := by decide +kernel
theorem dX2_takeShares_16 : decode cX2_takeShares 16 = .ok (.getfield 29, 3) := by decide +kernel
theorem dX2_takeShares_19 : decode cX2_takeShares 19 = .ok (.if_icmp .ge 32, 3) := by decide +kernel
theorem dX2_takeShares_22 : decode cX2_takeShares 22 = .ok (.aload_n 0, 1) := by decide +kernel
theorem dX2_takeShares_23 : decode cX2_takeShares 23 = .ok (.getfield 26, 3) := by decide +kernel
theorem dX2_takeShares_26 : decode cX2_takeShares 26 = .ok (.iload_n 3, 1) := by decide +kernel
theorem dX2_takeShares_27 : decode cX2_takeShares 27 = .ok (.aaload, 1) := by decide +kernel
theorem dX2_takeShares_28 : decode cX2_takeShares 28 = .ok (.iload 4, 2) := by decide +kernel
theorem dX2_takeShares_30 : decode cX2_takeShares 30 = .ok (.aload_n 1, 1) := by decide +kernel
theorem dX2_takeShares_31 : decode cX2_takeShares 31 = .ok (.iload_n 2, 1) := by decide +kernel
theorem dX2_takeShares_32 : decode cX2_takeShares 32 = .ok (.aload_n 0, 1) := by decide +kernel
theorem dX2_takeShares_33 : decode cX2_takeShares 33 = .ok (.getfield 29, 3) := by decide +kernel
theorem dX2_takeShares_36 : decode cX2_takeShares 36 = .ok (.iload_n 3, 1) := by decide +kernel
theorem dX2_takeShares_37 : decode cX2_takeShares 37 = .ok (.imul, 1) := by decide +kernel
theorem dX2_takeShares_38 : decode cX2_takeShares 38 = .ok (.iadd, 1) := by decide +kernel
theorem dX2_takeShares_39 : decode cX2_takeShares 39 = .ok (.iload 4, 2) := by decide +kernel
theorem dX2_takeShares_41 : decode cX2_takeShares 41 = .ok (.iadd, 1) := by decide +kernel
theorem dX2_takeShares_42 : decode cX2_takeShares 42 = .ok (.laload, 1) := by decide +kernel
theorem dX2_takeShares_43 : decode cX2_takeShares 43 = .ok (.l2i, 1) := by decide +kernel
theorem dX2_takeShares_44 : decode cX2_takeShares 44 = .ok (.iastore, 1) := by decide +kernel
theorem dX2_takeShares_45 : decode cX2_takeShares 45 = .ok (.iinc 4 1, 3) := by decide +kernel
theorem dX2_takeShares_48 : decode cX2_takeShares 48 = .ok (.goto (-35), 3) := by decide +kernel
theorem dX2_takeShares_51 : decode cX2_takeShares 51 = .ok (.iinc 3 1, 3) := by decide +kernel
theorem dX2_takeShares_54 : decode cX2_takeShares 54 = .ok (.goto (-52), 3) := by decide +kernel
theorem dX2_takeShares_57 : decode cX2_takeShares 57 = .ok (.return_, 1) := by decide +kernel
theorem dX2_allLoads_0 : decode cX2_allLoads 0 = .ok (.iconst 0, 1) := by decide +kernel
theorem dX2_allLoads_1 : decode cX2_allLoads 1 = .ok (.istore_n 1, 1) := by decide +kernel
theorem dX2_allLoads_2 : decode cX2_allLoads 2 = .ok (.iconst 0, 1) := by decide +kernel
theorem dX2_allLoads_3 : decode cX2_allLoads 3 = .ok (.istore_n 2, 1) := by decide +kernel
theorem dX2_allLoads_4 : decode cX2_allLoads 4 = .ok (.iload_n 2, 1) := by decide +kernel
theorem dX2_allLoads_5 : decode cX2_allLoads 5 = .ok (.aload_n 0, 1) := by decide +kernel
theorem dX2_allLoads_6 : decode cX2_allLoads 6 = .ok (.getfield 29, 3) := by decide +kernel
theorem dX2_allLoads_9 : decode cX2_allLoads 9 = .ok (.if_icmp .ge 18, 3) := by decide +kernel
theorem dX2_allLoads_12 : decode cX2_allLoads 12 = .ok (.iload_n 1, 1) := by decide +kernel
theorem dX2_allLoads_13 : decode cX2_allLoads 13 = .ok (.aload_n 0, 1) := by decide +kernel
theorem dX2_allLoads_14 : decode cX2_allLoads 14 = .ok (.getfield 9, 3) := by decide +kernel
theorem dX2_allLoads_17 : decode cX2_allLoads 17 = .ok (.iload_n 2, 1) := by decide +kernel
theorem dX2_allLoads_18 : decode cX2_allLoads 18 = .ok (.iaload, 1) := by decide +kernel
theorem dX2_allLoads_19 : decode cX2_allLoads 19 = .ok (.iadd, 1) := by decide +kernel
theorem dX2_allLoads_20 : decode cX2_allLoads 20 = .ok (.istore_n 1, 1) := by decide +kernel
theorem dX2_allLoads_21 : decode cX2_allLoads 21 = .ok (.iinc 2 1, 3) := by decide +kernel
theorem dX2_allLoads_24 : decode cX2_allLoads 24 = .ok (.goto (-20), 3) := by decide +kernel
theorem dX2_allLoads_27 : decode cX2_allLoads 27 = .ok (.iload_n 1, 1) := by decide +kernel
theorem dX2_allLoads_28 : decode cX2_allLoads 28 = .ok (.ireturn, 1) := by decide +kernel
theorem dX2_givenAt_0 : decode cX2_givenAt 0 = .ok (.iconst 0, 1) := by decide +kernel
theorem dX2_givenAt_1 : decode cX2_givenAt 1 = .ok (.istore_n 2, 1) := by decide +kernel
theorem dX2_givenAt_2 : decode cX2_givenAt 2 = .ok (.iconst 0, 1) := by decide +kernel
theorem dX2_givenAt_3 : decode cX2_givenAt 3 = .ok (.istore_n 3, 1) := by decide +kernel
theorem dX2_givenAt_4 : decode cX2_givenAt 4 = .ok (.iload_n 3, 1) := by decide +kernel
theorem dX2_givenAt_5 : decode cX2_givenAt 5 = .ok (.aload_n 0, 1) := by decide +kernel
theorem dX2_givenAt_6 : decode cX2_givenAt 6 = .ok (.getfield 29, 3) := by decide +kernel
theorem dX2_givenAt_9 : decode cX2_givenAt 9 = .ok (.if_icmp .ge 27, 3) := by decide +kernel
theorem dX2_givenAt_12 : decode cX2_givenAt 12 = .ok (.iload_n 2, 1) := by decide +kernel
theorem dX2_givenAt_13 : decode cX2_givenAt 13 = .ok (.aload_n 0, 1) := by decide +kernel
theorem dX2_givenAt_14 : decode cX2_givenAt 14 = .ok (.getfield 9, 3) := by decide +kernel
theorem dX2_givenAt_17 : decode cX2_givenAt 17 = .ok (.iload_n 3, 1) := by decide +kernel
theorem dX2_givenAt_18 : decode cX2_givenAt 18 = .ok (.iaload, 1) := by decide +kernel
theorem dX2_givenAt_19 : decode cX2_givenAt 19 = .ok (.aload_n 0, 1) := by decide +kernel
theorem dX2_givenAt_20 : decode cX2_givenAt 20 = .ok (.getfield 26, 3) := by decide +kernel
theorem dX2_givenAt_23 : decode cX2_givenAt 23 = .ok (.iload_n 1, 1) := by decide +kernel
theorem dX2_givenAt_24 : decode cX2_givenAt 24 = .ok (.aaload, 1) := by decide +kernel
theorem dX2_givenAt_25 : decode cX2_givenAt 25 = .ok (.iload_n 3, 1) := by decide +kernel
theorem dX2_givenAt_26 : decode cX2_givenAt 26 = .ok (.iaload, 1) := by decide +kernel
theorem dX2_givenAt_27 : decode cX2_givenAt 27 = .ok (.imul, 1) := by decide +kernel
theorem dX2_givenAt_28 : decode cX2_givenAt 28 = .ok (.iadd, 1) := by decide +kernel
theorem dX2_givenAt_29 : decode cX2_givenAt 29 = .ok (.istore_n 2, 1) := by decide +kernel
theorem dX2_givenAt_30 : decode cX2_givenAt 30 = .ok (.iinc 3 1, 3) := by decide +kernel
theorem dX2_givenAt_33 : decode cX2_givenAt 33 = .ok (.goto (-29), 3) := by decide +kernel
theorem dX2_givenAt_36 : decode cX2_givenAt 36 = .ok (.iload_n 2, 1) := by decide +kernel
theorem dX2_givenAt_37 : decode cX2_givenAt 37 = .ok (.ireturn, 1) := by decide +kernel
theorem dX2_warmth_0 : decode cX2_warmth 0 = .ok (.sipush 1000, 3) := by decide +kernel
theorem dX2_warmth_3 : decode cX2_warmth 3 = .ok (.iload_n 2, 1) := by decide +kernel
theorem dX2_warmth_4 : decode cX2_warmth 4 = .ok (.imul, 1) := by decide +kernel
theorem dX2_warmth_5 : decode cX2_warmth 5 = .ok (.aload_n 0, 1) := by decide +kernel
theorem dX2_warmth_6 : decode cX2_warmth 6 = .ok (.iload_n 1, 1) := by decide +kernel
theorem dX2_warmth_7 : decode cX2_warmth 7 = .ok (.invokevirtual 39, 3) := by decide +kernel
theorem dX2_warmth_10 : decode cX2_warmth 10 = .ok (.iload_n 3, 1) := by decide +kernel
theorem dX2_warmth_11 : decode cX2_warmth 11 = .ok (.invokestatic 43, 3) := by decide +kernel
theorem dX2_warmth_14 : decode cX2_warmth 14 = .ok (.iadd, 1) := by decide +kernel
theorem dX2_warmth_15 : decode cX2_warmth 15 = .ok (.ireturn, 1) := by decide +kernel
theorem dX2_margin_0 : decode cX2_margin 0 = .ok (.aload_n 0, 1) := by decide +kernel
theorem dX2_margin_1 : decode cX2_margin 1 = .ok (.getfield 15, 3) := by decide +kernel
theorem dX2_margin_4 : decode cX2_margin 4 = .ok (.iload_n 1, 1) := by decide +kernel
theorem dX2_margin_5 : decode cX2_margin 5 = .ok (.iaload, 1) := by decide +kernel
theorem dX2_margin_6 : decode cX2_margin 6 = .ok (.aload_n 0, 1) := by decide +kernel
theorem dX2_margin_7 : decode cX2_margin 7 = .ok (.iload_n 1, 1) := by decide +kernel
theorem dX2_margin_8 : decode cX2_margin 8 = .ok (.aload_n 0, 1) := by decide +kernel
theorem dX2_margin_9 : decode cX2_margin 9 = .ok (.getfield 33, 3) := by decide +kernel
theorem dX2_margin_12 : decode cX2_margin 12 = .ok (.aload_n 0, 1) := by decide +kernel
theorem dX2_margin_13 : decode cX2_margin 13 = .ok (.getfield 36, 3) := by decide +kernel
theorem dX2_margin_16 : decode cX2_margin 16 = .ok (.invokevirtual 47, 3) := by decide +kernel
theorem dX2_margin_19 : decode cX2_margin 19 = .ok (.isub, 1) := by decide +kernel
theorem dX2_margin_20 : decode cX2_margin 20 = .ok (.ireturn, 1) := by decide +kernel
theorem dX2_countHot_0 : decode cX2_countHot 0 = .ok (.iconst 0, 1) := by decide +kernel
theorem dX2_countHot_1 : decode cX2_countHot 1 = .ok (.istore_n 1, 1) := by decide +kernel
theorem dX2_countHot_2 : decode cX2_countHot 2 = .ok (.iconst 0, 1) := by decide +kernel
theorem dX2_countHot_3 : decode cX2_countHot 3 = .ok (.istore_n 2, 1) := by decide +kernel
theorem dX2_countHot_4 : decode cX2_countHot 4 = .ok (.iload_n 2, 1) := by decide +kernel
theorem dX2_countHot_5 : decode cX2_countHot 5 = .ok (.aload_n 0, 1) := by decide +kernel
theorem dX2_countHot_6 : decode cX2_countHot 6 = .ok (.getfield 29, 3) := by decide +kernel
theorem dX2_countHot_9 : decode cX2_countHot 9 = .ok (.if_icmp .ge 20, 3) := by decide +kernel
theorem dX2_countHot_12 : decode cX2_countHot 12 = .ok (.aload_n 0, 1) := by decide +kernel
theorem dX2_countHot_13 : decode cX2_countHot 13 = .ok (.iload_n 2, 1) := by decide +kernel
theorem dX2_countHot_14 : decode cX2_countHot 14 = .ok (.invokevirtual 51, 3) := by decide +kernel
theorem dX2_countHot_17 : decode cX2_countHot 17 = .ok (.ifCond .ge 6, 3) := by decide +kernel
theorem dX2_countHot_20 : decode cX2_countHot 20 = .ok (.iinc 1 1, 3) := by decide +kernel
theorem dX2_countHot_23 : decode cX2_countHot 23 = .ok (.iinc 2 1, 3) := by decide +kernel
theorem dX2_countHot_26 : decode cX2_countHot 26 = .ok (.goto (-22), 3) := by decide +kernel
theorem dX2_countHot_29 : decode cX2_countHot 29 = .ok (.iload_n 1, 1) := by decide +kernel
theorem dX2_countHot_30 : decode cX2_countHot 30 = .ok (.ireturn, 1) := by decide +kernel
theorem dX2_firstHot_0 : decode cX2_firstHot 0 = .ok (.iconst 0, 1) := by decide +kernel
theorem dX2_firstHot_1 : decode cX2_firstHot 1 = .ok (.istore_n 3, 1) := by decide +kernel
theorem dX2_firstHot_2 : decode cX2_firstHot 2 = .ok (.iload_n 3, 1) := by decide +kernel
theorem dX2_firstHot_3 : decode cX2_firstHot 3 = .ok (.aload_n 0, 1) := by decide +kernel
theorem dX2_firstHot_4 : decode cX2_firstHot 4 = .ok (.getfield 29, 3) := by decide +kernel
theorem dX2_firstHot_7 : decode cX2_firstHot 7 = .ok (.if_icmp .ge 27, 3) := by decide +kernel
theorem dX2_firstHot_10 : decode cX2_firstHot 10 = .ok (.aload_n 0, 1) := by decide +kernel
theorem dX2_firstHot_11 : decode cX2_firstHot 11 = .ok (.iload_n 3, 1) := by decide +kernel
theorem dX2_firstHot_12 : decode cX2_firstHot 12 = .ok (.iload_n 1, 1) := by decide +kernel
theorem dX2_firstHot_13 : decode cX2_firstHot 13 = .ok (.iload_n 2, 1) := by decide +kernel
theorem dX2_firstHot_14 : decode cX2_firstHot 14 = .ok (.invokevirtual 47, 3) := by decide +kernel
theorem dX2_firstHot_17 : decode cX2_firstHot 17 = .ok (.aload_n 0, 1) := by decide +kernel
theorem dX2_firstHot_18 : decode cX2_firstHot 18 = .ok (.getfield 15, 3) := by decide +kernel
theorem dX2_firstHot_21 : decode cX2_firstHot 21 = .ok (.iload_n 3, 1) := by decide +kernel
theorem dX2_firstHot_22 : decode cX2_firstHot 22 = .ok (.iaload, 1) := by decide +kernel
theorem dX2_firstHot_23 : decode cX2_firstHot 23 = .ok (.if_icmp .le 5, 3) := by decide +kernel
theorem dX2_firstHot_26 : decode cX2_firstHot 26 = .ok (.iload_n 3, 1) := by decide +kernel
theorem dX2_firstHot_27 : decode cX2_firstHot 27 = .ok (.ireturn, 1) := by decide +kernel
theorem dX2_firstHot_28 : decode cX2_firstHot 28 = .ok (.iinc 3 1, 3) := by decide +kernel
theorem dX2_firstHot_31 : decode cX2_firstHot 31 = .ok (.goto (-29), 3) := by decide +kernel
theorem dX2_firstHot_34 : decode cX2_firstHot 34 = .ok (.bipush (-4), 2) := by decide +kernel
theorem dX2_firstHot_36 : decode cX2_firstHot 36 = .ok (.ireturn, 1) := by decide +kernel
theorem dX2_nearestToLimit_0 : decode cX2_nearestToLimit 0 = .ok (.bipush (-4), 2) := by decide +kernel
theorem dX2_nearestToLimit_2 : decode cX2_nearestToLimit 2 = .ok (.istore_n 1, 1) := by decide +kernel
theorem dX2_nearestToLimit_3 : decode cX2_nearestToLimit 3 = .ok (.ldc 54, 2) := by decide +kernel
theorem dX2_nearestToLimit_5 : decode cX2_nearestToLimit 5 = .ok (.istore_n 2, 1) := by decide +kernel
theorem dX2_nearestToLimit_6 : decode cX2_nearestToLimit 6 = .ok (.iconst 0, 1) := by decide +kernel
theorem dX2_nearestToLimit_7 : decode cX2_nearestToLimit 7 = .ok (.istore_n 3, 1) := by decide +kernel
theorem dX2_nearestToLimit_8 : decode cX2_nearestToLimit 8 = .ok (.iload_n 3, 1) := by decide +kernel
theorem dX2_nearestToLimit_9 : decode cX2_nearestToLimit 9 = .ok (.aload_n 0, 1) := by decide +kernel
theorem dX2_nearestToLimit_10 : decode cX2_nearestToLimit 10 = .ok (.getfield 29, 3) := by decide +kernel
theorem dX2_nearestToLimit_13 : decode cX2_nearestToLimit 13 = .ok (.if_icmp .ge 27, 3) := by decide +kernel
theorem dX2_nearestToLimit_16 : decode cX2_nearestToLimit 16 = .ok (.aload_n 0, 1) := by decide +kernel
theorem dX2_nearestToLimit_17 : decode cX2_nearestToLimit 17 = .ok (.iload_n 3, 1) := by decide +kernel
theorem dX2_nearestToLimit_18 : decode cX2_nearestToLimit 18 = .ok (.invokevirtual 51, 3) := by decide +kernel
theorem dX2_nearestToLimit_21 : decode cX2_nearestToLimit 21 = .ok (.istore 4, 2) := by decide +kernel
theorem dX2_nearestToLimit_23 : decode cX2_nearestToLimit 23 = .ok (.iload 4, 2) := by decide +kernel
theorem dX2_nearestToLimit_25 : decode cX2_nearestToLimit 25 = .ok (.iload_n 2, 1) := by decide +kernel
theorem dX2_nearestToLimit_26 : decode cX2_nearestToLimit 26 = .ok (.if_icmp .ge 8, 3) := by decide +kernel
theorem dX2_nearestToLimit_29 : decode cX2_nearestToLimit 29 = .ok (.iload 4, 2) := by decide +kernel
theorem dX2_nearestToLimit_31 : decode cX2_nearestToLimit 31 = .ok (.istore_n 2, 1) := by decide +kernel
theorem dX2_nearestToLimit_32 : decode cX2_nearestToLimit 32 = .ok (.iload_n 3, 1) := by decide +kernel
theorem dX2_nearestToLimit_33 : decode cX2_nearestToLimit 33 = .ok (.istore_n 1, 1) := by decide +kernel
theorem dX2_nearestToLimit_34 : decode cX2_nearestToLimit 34 = .ok (.iinc 3 1, 3) := by decide +kernel
theorem dX2_nearestToLimit_37 : decode cX2_nearestToLimit 37 = .ok (.goto (-29), 3) := by decide +kernel
theorem dX2_nearestToLimit_40 : decode cX2_nearestToLimit 40 = .ok (.iload_n 1, 1) := by decide +kernel
theorem dX2_nearestToLimit_41 : decode cX2_nearestToLimit 41 = .ok (.ireturn, 1) := by decide +kernel
theorem dX3_init_0 : decode cX3_init 0 = .ok (.aload_n 0, 1) := by decide +kernel
theorem dX3_init_1 : decode cX3_init 1 = .ok (.invokespecial 3, 3) := by decide +kernel
theorem dX3_init_4 : decode cX3_init 4 = .ok (.aload_n 0, 1) := by decide +kernel
theorem dX3_init_5 : decode cX3_init 5 = .ok (.bipush 12, 2) := by decide +kernel
theorem dX3_init_7 : decode cX3_init 7 = .ok (.newarray .int, 2) := by decide +kernel
theorem dX3_init_9 : decode cX3_init 9 = .ok (.putfield 9, 3) := by decide +kernel
theorem dX3_init_12 : decode cX3_init 12 = .ok (.aload_n 0, 1) := by decide +kernel
theorem dX3_init_13 : decode cX3_init 13 = .ok (.bipush 12, 2) := by decide +kernel
theorem dX3_init_15 : decode cX3_init 15 = .ok (.newarray .boolean, 2) := by decide +kernel
theorem dX3_init_17 : decode cX3_init 17 = .ok (.putfield 15, 3) := by decide +kernel
theorem dX3_init_20 : decode cX3_init 20 = .ok (.aload_n 0, 1) := by decide +kernel
theorem dX3_init_21 : decode cX3_init 21 = .ok (.bipush 12, 2) := by decide +kernel
theorem dX3_init_23 : decode cX3_init 23 = .ok (.newarray .int, 2) := by decide +kernel
theorem dX3_init_25 : decode cX3_init 25 = .ok (.putfield 19, 3) := by decide +kernel
theorem dX3_init_28 : decode cX3_init 28 = .ok (.aload_n 0, 1) := by decide +kernel
theorem dX3_init_29 : decode cX3_init 29 = .ok (.bipush 12, 2) := by decide +kernel
theorem dX3_init_31 : decode cX3_init 31 = .ok (.newarray .boolean, 2) := by decide +kernel
theorem dX3_init_33 : decode cX3_init 33 = .ok (.putfield 22, 3) := by decide +kernel
theorem dX3_init_36 : decode cX3_init 36 = .ok (.aload_n 0, 1) := by decide +kernel
theorem dX3_init_37 : decode cX3_init 37 = .ok (.bipush 12, 2) := by decide +kernel
theorem dX3_init_39 : decode cX3_init 39 = .ok (.newarray .int, 2) := by decide +kernel
theorem dX3_init_41 : decode cX3_init 41 = .ok (.putfield 25, 3) := by decide +kernel
theorem dX3_init_44 : decode cX3_init 44 = .ok (.aload_n 0, 1) := by decide +kernel
theorem dX3_init_45 : decode cX3_init 45 = .ok (.iconst 0, 1) := by decide +kernel
theorem dX3_init_46 : decode cX3_init 46 = .ok (.putfield 28, 3) := by decide +kernel
theorem dX3_init_49 : decode cX3_init 49 = .ok (.return_, 1) := by decide +kernel
theorem dX3_has_0 : decode cX3_has 0 = .ok (.iload_n 1, 1) := by decide +kernel
theorem dX3_has_1 : decode cX3_has 1 = .ok (.ifCond .lt 15, 3) := by decide +kernel
theorem dX3_has_4 : decode cX3_has 4 = .ok (.iload_n 1, 1) := by decide +kernel
theorem dX3_has_5 : decode cX3_has 5 = .ok (.aload_n 0, 1) := by decide +kernel
theorem dX3_has_6 : decode cX3_has 6 = .ok (.getfield 28, 3) := by decide +kernel
theorem dX3_has_9 : decode cX3_has 9 = .ok (.if_icmp .ge 7, 3) := by decide +kernel
theorem dX3_has_12 : decode cX3_has 12 = .ok (.iconst 1, 1) := by decide +kernel
theorem dX3_has_13 : decode cX3_has 13 = .ok (.goto 4, 3) := by decide +kernel
theorem dX3_has_16 : decode cX3_has 16 = .ok (.iconst 0, 1) := by decide +kernel
theorem dX3_has_17 : decode cX3_has 17 = .ok (.ireturn, 1) := by decide +kernel
theorem dX3_add_0 : decode cX3_add 0 = .ok (.aload_n 0, 1) := by decide +kernel
theorem dX3_add_1 : decode cX3_add 1 = .ok (.getfield 28, 3) := by decide +kernel
theorem dX3_add_4 : decode cX3_add 4 = .ok (.bipush 12, 2) := by decide +kernel
theorem dX3_add_6 : decode cX3_add 6 = .ok (.if_icmp .lt 6, 3) := by decide +kernel
theorem dX3_add_9 : decode cX3_add 9 = .ok (.bipush (-3), 2) := by decide +kernel
theorem dX3_add_11 : decode cX3_add 11 = .ok (.ireturn, 1) := by decide +kernel
theorem dX3_add_12 : decode cX3_add 12 = .ok (.aload_n 0, 1) := by decide +kernel
theorem dX3_add_13 : decode cX3_add 13 = .ok (.getfield 9, 3) := by decide +kernel
theorem dX3_add_16 : decode cX3_add 16 = .ok (.aload_n 0, 1) := by decide +kernel
theorem dX3_add_17 : decode cX3_add 17 = .ok (.getfield 28, 3) := by decide +kernel
theorem dX3_add_20 : decode cX3_add 20 = .ok (.iload_n 1, 1) := by decide +kernel
theorem dX3_add_21 : decode cX3_add 21 = .ok (.iastore, 1) := by decide +kernel
theorem dX3_add_22 : decode cX3_add 22 = .ok (.aload_n 0, 1) := by decide +kernel
theorem dX3_add_23 : decode cX3_add 23 = .ok (.dup, 1) := by decide +kernel
theorem dX3_add_24 : decode cX3_add 24 = .ok (.getfield 28, 3) := by decide +kernel
theorem dX3_add_27 : decode cX3_add 27 = .ok (.iconst 1, 1) := by decide +kernel
theorem dX3_add_28 : decode cX3_add 28 = .ok (.iadd, 1) := by decide +kernel
theorem dX3_add_29 : decode cX3_add 29 = .ok (.putfield 28, 3) := by decide +kernel
theorem dX3_add_32 : decode cX3_add 32 = .ok (.aload_n 0, 1) := by decide +kernel
theorem dX3_add_33 : decode cX3_add 33 = .ok (.getfield 28, 3) := by decide +kernel
theorem dX3_add_36 : decode cX3_add 36 = .ok (.iconst 1, 1) := by decide +kernel
theorem dX3_add_37 : decode cX3_add 37 = .ok (.isub, 1) := by decide +kernel
theorem dX3_add_38 : decode cX3_add 38 = .ok (.ireturn, 1) := by decide +kernel
theorem dX3_infer_0 : decode cX3_infer 0 = .ok (.iconst 0, 1) := by decide +kernel
theorem dX3_infer_1 : decode cX3_infer 1 = .ok (.istore_n 1, 1) := by decide +kernel
theorem dX3_infer_2 : decode cX3_infer 2 = .ok (.iload_n 1, 1) := by decide +kernel
theorem dX3_infer_3 : decode cX3_infer 3 = .ok (.aload_n 0, 1) := by decide +kernel
theorem dX3_infer_4 : decode cX3_infer 4 = .ok (.getfield 28, 3) := by decide +kernel
theorem dX3_infer_7 : decode cX3_infer 7 = .ok (.if_icmp .ge 33, 3) := by decide +kernel
theorem dX3_infer_10 : decode cX3_infer 10 = .ok (.aload_n 0, 1) := by decide +kernel
theorem dX3_infer_11 : decode cX3_infer 11 = .ok (.getfield 22, 3) := by decide +kernel
theorem dX3_infer_14 : decode cX3_infer 14 = .ok (.iload_n 1, 1) := by decide +kernel
theorem dX3_infer_15 : decode cX3_infer 15 = .ok (.aload_n 0, 1) := by decide +kernel
theorem dX3_infer_16 : decode cX3_infer 16 = .ok (.getfield 15, 3) := by decide +kernel
theorem dX3_infer_19 : decode cX3_infer 19 = .ok (.iload_n 1, 1) := by decide +kernel
theorem dX3_infer_20 : decode cX3_infer 20 = .ok (.baload, 1) := by decide +kernel
theorem dX3_infer_21 : decode cX3_infer 21 = .ok (.bastore, 1) := by decide +kernel
theorem dX3_infer_22 : decode cX3_infer 22 = .ok (.aload_n 0, 1) := by decide +kernel
theorem dX3_infer_23 : decode cX3_infer 23 = .ok (.getfield 25, 3) := by decide +kernel
theorem dX3_infer_26 : decode cX3_infer 26 = .ok (.iload_n 1, 1) := by decide +kernel
theorem dX3_infer_27 : decode cX3_infer 27 = .ok (.aload_n 0, 1) := by decide +kernel
theorem dX3_infer_28 : decode cX3_infer 28 = .ok (.getfield 19, 3) := by decide +kernel
theorem dX3_infer_31 : decode cX3_infer 31 = .ok (.iload_n 1, 1) := by decide +kernel
theorem dX3_infer_32 : decode cX3_infer 32 = .ok (.iaload, 1) := by decide +kernel
theorem dX3_infer_33 : decode cX3_infer 33 = .ok (.iastore, 1) := by decide +kernel
theorem dX3_infer_34 : decode cX3_infer 34 = .ok (.iinc 1 1, 3) := by decide +kernel
theorem dX3_infer_37 : decode cX3_infer 37 = .ok (.goto (-35), 3) := by decide +kernel
theorem dX3_infer_40 : decode cX3_infer 40 = .ok (.iconst 1, 1) := by decide +kernel
theorem dX3_infer_41 : decode cX3_infer 41 = .ok (.istore_n 1, 1) := by decide +kernel
theorem dX3_infer_42 : decode cX3_infer 42 = .ok (.iconst 0, 1) := by decide +kernel
theorem dX3_infer_43 : decode cX3_infer 43 = .ok (.istore_n 2, 1) := by decide +kernel
theorem dX3_infer_44 : decode cX3_infer 44 = .ok (.iload_n 1, 1) := by decide +kernel
theorem dX3_infer_45 : decode cX3_infer 45 = .ok (.ifCond .eq 22, 3) := by decide +kernel
theorem dX3_infer_48 : decode cX3_infer 48 = .ok (.iload_n 2, 1) := by decide +kernel
theorem dX3_infer_49 : decode cX3_infer 49 = .ok (.aload_n 0, 1) := by decide +kernel
theorem dX3_infer_50 : decode cX3_infer 50 = .ok (.getfield 28, 3) := by decide +kernel
theorem dX3_infer_53 : decode cX3_infer 53 = .ok (.if_icmp .gt 14, 3) := by decide +kernel
theorem dX3_infer_56 : decode cX3_infer 56 = .ok (.aload_n 0, 1) := by decide +kernel
theorem dX3_infer_57 : decode cX3_infer 57 = .ok (.invokevirtual 32, 3) := by decide +kernel
theorem dX3_infer_60 : decode cX3_infer 60 = .ok (.istore_n 1, 1) := by decide +kernel
theorem dX3_infer_61 : decode cX3_infer 61 = .ok (.iinc 2 1, 3) := by decide +kernel
theorem dX3_infer_64 : decode cX3_infer 64 = .ok (.goto (-20), 3) := by decide +kernel
theorem dX3_infer_67 : decode cX3_infer 67 = .ok (.return_, 1) := by decide +kernel
theorem dX3_inferOnce_0 : decode cX3_inferOnce 0 = .ok (.iconst 0, 1) := by decide +kernel
theorem dX3_inferOnce_1 : decode cX3_inferOnce 1 = .ok (.istore_n 1, 1) := by decide +kernel
theorem dX3_inferOnce_2 : decode cX3_inferOnce 2 = .ok (.iconst 0, 1) := by decide +kernel
theorem dX3_inferOnce_3 : decode cX3_inferOnce 3 = .ok (.istore_n 2, 1) := by decide +kernel
theorem dX3_inferOnce_4 : decode cX3_inferOnce 4 = .ok (.iload_n 2, 1) := by decide +kernel
theorem dX3_inferOnce_5 : decode cX3_inferOnce 5 = .ok (.aload_n 0, 1) := by decide +kernel
theorem dX3_inferOnce_6 : decode cX3_inferOnce 6 = .ok (.getfield 28, 3) := by decide +kernel
theorem dX3_inferOnce_9 : decode cX3_inferOnce 9 = .ok (.if_icmp .ge 43, 3) := by decide +kernel
theorem dX3_inferOnce_12 : decode cX3_inferOnce 12 = .ok (.aload_n 0, 1) := by decide +kernel
theorem dX3_inferOnce_13 : decode cX3_inferOnce 13 = .ok (.getfield 22, 3) := by decide +kernel
theorem dX3_inferOnce_16 : decode cX3_inferOnce 16 = .ok (.iload_n 2, 1) := by decide +kernel
theorem dX3_inferOnce_17 : decode cX3_inferOnce 17 = .ok (.baload, 1) := by decide +kernel
theorem dX3_inferOnce_18 : decode cX3_inferOnce 18 = .ok (.ifCond .ne 28, 3) := by decide +kernel
theorem dX3_inferOnce_21 : decode cX3_inferOnce 21 = .ok (.aload_n 0, 1) := by decide +kernel
theorem dX3_inferOnce_22 : decode cX3_inferOnce 22 = .ok (.iload_n 2, 1) := by decide +kernel
theorem dX3_inferOnce_23 : decode cX3_inferOnce 23 = .ok (.invokevirtual 36, 3) := by decide +kernel
theorem dX3_inferOnce_26 : decode cX3_inferOnce 26 = .ok (.ifCond .ne 11, 3) := by decide +kernel
theorem dX3_inferOnce_29 : decode cX3_inferOnce 29 = .ok (.aload_n 0, 1) := by decide +kernel
theorem dX3_inferOnce_30 : decode cX3_inferOnce 30 = .ok (.iload_n 2, 1) := by decide +kernel
theorem dX3_inferOnce_31 : decode cX3_inferOnce 31 = .ok (.invokevirtual 40, 3) := by decide +kernel
theorem dX3_inferOnce_34 : decode cX3_inferOnce 34 = .ok (.ifCond .eq 12, 3) := by decide +kernel
theorem dX3_inferOnce_37 : decode cX3_inferOnce 37 = .ok (.aload_n 0, 1) := by decide +kernel
theorem dX3_inferOnce_38 : decode cX3_inferOnce 38 = .ok (.getfield 22, 3) := by decide +kernel
theorem dX3_inferOnce_41 : decode cX3_inferOnce 41 = .ok (.iload_n 2, 1) := by decide +kernel
theorem dX3_inferOnce_42 : decode cX3_inferOnce 42 = .ok (.iconst 1, 1) := by decide +kernel
theorem dX3_inferOnce_43 : decode cX3_inferOnce 43 = .ok (.bastore, 1) := by decide +kernel
theorem dX3_inferOnce_44 : decode cX3_inferOnce 44 = .ok (.iconst 1, 1) := by decide +kernel
theorem dX3_inferOnce_45 : decode cX3_inferOnce 45 = .ok (.istore_n 1, 1) := by decide +kernel
theorem dX3_inferOnce_46 : decode cX3_inferOnce 46 = .ok (.iinc 2 1, 3) := by decide +kernel
theorem dX3_inferOnce_49 : decode cX3_inferOnce 49 = .ok (.goto (-45), 3) := by decide +kernel
theorem dX3_inferOnce_52 : decode cX3_inferOnce 52 = .ok (.iload_n 1, 1) := by decide +kernel
theorem dX3_inferOnce_53 : decode cX3_inferOnce 53 = .ok (.ireturn, 1) := by decide +kernel
theorem dX3_inferFromBelow_0 : decode cX3_inferFromBelow 0 = .ok (.aload_n 0, 1) := by decide +kernel
theorem dX3_inferFromBelow_1 : decode cX3_inferFromBelow 1 = .ok (.iload_n 1, 1) := by decide +kernel
theorem dX3_inferFromBelow_2 : decode cX3_inferFromBelow 2 = .ok (.invokevirtual 43, 3) := by decide +kernel
theorem dX3_inferFromBelow_5 : decode cX3_inferFromBelow 5 = .ok (.ifCond .eq 13, 3) := by decide +kernel
theorem dX3_inferFromBelow_8 : decode cX3_inferFromBelow 8 = .ok (.aload_n 0, 1) := by decide +kernel
theorem dX3_inferFromBelow_9 : decode cX3_inferFromBelow 9 = .ok (.iload_n 1, 1) := by decide +kernel
theorem dX3_inferFromBelow_10 : decode cX3_inferFromBelow 10 = .ok (.bipush (-4), 2) := by decide +kernel
theorem dX3_inferFromBelow_12 : decode cX3_inferFromBelow 12 = .ok (.invokevirtual 46, 3) := by decide +kernel
theorem dX3_inferFromBelow_15 : decode cX3_inferFromBelow 15 = .ok (.ifCond .ne 5, 3) := by decide +kernel
theorem dX3_inferFromBelow_18 : decode cX3_inferFromBelow 18 = .ok (.iconst 0, 1) := by decide +kernel
theorem dX3_inferFromBelow_19 : decode cX3_inferFromBelow 19 = .ok (.ireturn, 1) := by decide +kernel
theorem dX3_inferFromBelow_20 : decode cX3_inferFromBelow 20 = .ok (.aload_n 0, 1) := by decide +kernel
theorem dX3_inferFromBelow_21 : decode cX3_inferFromBelow 21 = .ok (.getfield 25, 3) := by decide +kernel
theorem dX3_inferFromBelow_24 : decode cX3_inferFromBelow 24 = .ok (.iload_n 1, 1) := by decide +kernel
theorem dX3_inferFromBelow_25 : decode cX3_inferFromBelow 25 = .ok (.aload_n 0, 1) := by decide +kernel
theorem dX3_inferFromBelow_26 : decode cX3_inferFromBelow 26 = .ok (.iload_n 1, 1) := by decide +kernel
theorem dX3_inferFromBelow_27 : decode cX3_inferFromBelow 27 = .ok (.bipush (-4), 2) := by decide +kernel
theorem dX3_inferFromBelow_29 : decode cX3_inferFromBelow 29 = .ok (.invokevirtual 50, 3) := by decide +kernel
theorem dX3_inferFromBelow_32 : decode cX3_inferFromBelow 32 = .ok (.iastore, 1) := by decide +kernel
theorem dX3_inferFromBelow_33 : decode cX3_inferFromBelow 33 = .ok (.iconst 1, 1) := by decide +kernel
theorem dX3_inferFromBelow_34 : decode cX3_inferFromBelow 34 = .ok (.ireturn, 1) := by decide +kernel
theorem dX3_inferFromAbove_0 : decode cX3_inferFromAbove 0 = .ok (.aload_n 0, 1) := by decide +kernel
theorem dX3_inferFromAbove_1 : decode cX3_inferFromAbove 1 = .ok (.getfield 9, 3) := by decide +kernel
theorem dX3_inferFromAbove_4 : decode cX3_inferFromAbove 4 = .ok (.iload_n 1, 1) := by decide +kernel
theorem dX3_inferFromAbove_5 : decode cX3_inferFromAbove 5 = .ok (.iaload, 1) := by decide +kernel
theorem dX3_inferFromAbove_6 : decode cX3_inferFromAbove 6 = .ok (.istore_n 2, 1) := by decide +kernel
theorem dX3_inferFromAbove_7 : decode cX3_inferFromAbove 7 = .ok (.aload_n 0, 1) := by decide +kernel
theorem dX3_inferFromAbove_8 : decode cX3_inferFromAbove 8 = .ok (.iload_n 2, 1) := by decide +kernel
theorem dX3_inferFromAbove_9 : decode cX3_inferFromAbove 9 = .ok (.invokevirtual 54, 3) := by decide +kernel
theorem dX3_inferFromAbove_12 : decode cX3_inferFromAbove 12 = .ok (.ifCond .eq 21, 3) := by decide +kernel
theorem dX3_inferFromAbove_15 : decode cX3_inferFromAbove 15 = .ok (.aload_n 0, 1) := by decide +kernel
theorem dX3_inferFromAbove_16 : decode cX3_inferFromAbove 16 = .ok (.getfield 22, 3) := by decide +kernel
theorem dX3_inferFromAbove_19 : decode cX3_inferFromAbove 19 = .ok (.iload_n 2, 1) := by decide +kernel
theorem dX3_inferFromAbove_20 : decode cX3_inferFromAbove 20 = .ok (.baload, 1) := by decide +kernel
theorem dX3_inferFromAbove_21 : decode cX3_inferFromAbove 21 = .ok (.ifCond .eq 12, 3) := by decide +kernel
theorem dX3_inferFromAbove_24 : decode cX3_inferFromAbove 24 = .ok (.aload_n 0, 1) := by decide +kernel
theorem dX3_inferFromAbove_25 : decode cX3_inferFromAbove 25 = .ok (.iload_n 2, 1) := by decide +kernel
theorem dX3_inferFromAbove_26 : decode cX3_inferFromAbove 26 = .ok (.iload_n 1, 1) := by decide +kernel
theorem dX3_inferFromAbove_27 : decode cX3_inferFromAbove 27 = .ok (.invokevirtual 46, 3) := by decide +kernel
theorem dX3_inferFromAbove_30 : decode cX3_inferFromAbove 30 = .ok (.ifCond .ne 5, 3) := by decide +kernel
theorem dX3_inferFromAbove_33 : decode cX3_inferFromAbove 33 = .ok (.iconst 0, 1) := by decide +kernel
theorem dX3_inferFromAbove_34 : decode cX3_inferFromAbove 34 = .ok (.ireturn, 1) := by decide +kernel
theorem dX3_inferFromAbove_35 : decode cX3_inferFromAbove 35 = .ok (.aload_n 0, 1) := by decide +kernel
theorem dX3_inferFromAbove_36 : decode cX3_inferFromAbove 36 = .ok (.getfield 25, 3) := by decide +kernel
theorem dX3_inferFromAbove_39 : decode cX3_inferFromAbove 39 = .ok (.iload_n 1, 1) := by decide +kernel
theorem dX3_inferFromAbove_40 : decode cX3_inferFromAbove 40 = .ok (.aload_n 0, 1) := by decide +kernel
theorem dX3_inferFromAbove_41 : decode cX3_inferFromAbove 41 = .ok (.getfield 25, 3) := by decide +kernel
theorem dX3_inferFromAbove_44 : decode cX3_inferFromAbove 44 = .ok (.iload_n 2, 1) := by decide +kernel
theorem dX3_inferFromAbove_45 : decode cX3_inferFromAbove 45 = .ok (.iaload, 1) := by decide +kernel
theorem dX3_inferFromAbove_46 : decode cX3_inferFromAbove 46 = .ok (.aload_n 0, 1) := by decide +kernel
theorem dX3_inferFromAbove_47 : decode cX3_inferFromAbove 47 = .ok (.iload_n 2, 1) := by decide +kernel
theorem dX3_inferFromAbove_48 : decode cX3_inferFromAbove 48 = .ok (.iload_n 1, 1) := by decide +kernel
theorem dX3_inferFromAbove_49 : decode cX3_inferFromAbove 49 = .ok (.invokevirtual 50, 3) := by decide +kernel
theorem dX3_inferFromAbove_52 : decode cX3_inferFromAbove 52 = .ok (.isub, 1) := by decide +kernel
theorem dX3_inferFromAbove_53 : decode cX3_inferFromAbove 53 = .ok (.iastore, 1) := by decide +kernel
theorem dX3_inferFromAbove_54 : decode cX3_inferFromAbove 54 = .ok (.iconst 1, 1) := by decide +kernel
theorem dX3_inferFromAbove_55 : decode cX3_inferFromAbove 55 = .ok (.ireturn, 1) := by decide +kernel
theorem dX3_hasUnder_0 : decode cX3_hasUnder 0 = .ok (.iload_n 1, 1) := by decide +kernel
theorem dX3_hasUnder_1 : decode cX3_hasUnder 1 = .ok (.iconst 1, 1) := by decide +kernel
theorem dX3_hasUnder_2 : decode cX3_hasUnder 2 = .ok (.iadd, 1) := by decide +kernel
theorem dX3_hasUnder_3 : decode cX3_hasUnder 3 = .ok (.istore_n 2, 1) := by decide +kernel
theorem dX3_hasUnder_4 : decode cX3_hasUnder 4 = .ok (.iload_n 2, 1) := by decide +kernel
theorem dX3_hasUnder_5 : decode cX3_hasUnder 5 = .ok (.aload_n 0, 1) := by decide +kernel
theorem dX3_hasUnder_6 : decode cX3_hasUnder 6 = .ok (.getfield 28, 3) := by decide +kernel
theorem dX3_hasUnder_9 : decode cX3_hasUnder 9 = .ok (.if_icmp .ge 21, 3) := by decide +kernel
theorem dX3_hasUnder_12 : decode cX3_hasUnder 12 = .ok (.aload_n 0, 1) := by decide +kernel
theorem dX3_hasUnder_13 : decode cX3_hasUnder 13 = .ok (.getfield 9, 3) := by decide +kernel
theorem dX3_hasUnder_16 : decode cX3_hasUnder 16 = .ok (.iload_n 2, 1) := by decide +kernel
theorem dX3_hasUnder_17 : decode cX3_hasUnder 17 = .ok (.iaload, 1) := by decide +kernel
theorem dX3_hasUnder_18 : decode cX3_hasUnder 18 = .ok (.iload_n 1, 1) := by decide +kernel
theorem dX3_hasUnder_19 : decode cX3_hasUnder 19 = .ok (.if_icmp .ne 5, 3) := by decide +kernel
theorem dX3_hasUnder_22 : decode cX3_hasUnder 22 = .ok (.iconst 1, 1) := by decide +kernel
theorem dX3_hasUnder_23 : decode cX3_hasUnder 23 = .ok (.ireturn, 1) := by decide +kernel
theorem dX3_hasUnder_24 : decode cX3_hasUnder 24 = .ok (.iinc 2 1, 3) := by decide +kernel
theorem dX3_hasUnder_27 : decode cX3_hasUnder 27 = .ok (.goto (-23), 3) := by decide +kernel
theorem dX3_hasUnder_30 : decode cX3_hasUnder 30 = .ok (.iconst 0, 1) := by decide +kernel
theorem dX3_hasUnder_31 : decode cX3_hasUnder 31 = .ok (.ireturn, 1) := by decide +kernel
theorem dX3_allKnownUnder_0 : decode cX3_allKnownUnder 0 = .ok (.iload_n 1, 1) := by decide +kernel
theorem dX3_allKnownUnder_1 : decode cX3_allKnownUnder 1 = .ok (.iconst 1, 1) := by decide +kernel
theorem dX3_allKnownUnder_2 : decode cX3_allKnownUnder 2 = .ok (.iadd, 1) := by decide +kernel
theorem dX3_allKnownUnder_3 : decode cX3_allKnownUnder 3 = .ok (.istore_n 3, 1) := by decide +kernel
theorem dX3_allKnownUnder_4 : decode cX3_allKnownUnder 4 = .ok (.iload_n 3, 1) := by decide +kernel
theorem dX3_allKnownUnder_5 : decode cX3_allKnownUnder 5 = .ok (.aload_n 0, 1) := by decide +kernel
theorem dX3_allKnownUnder_6 : decode cX3_allKnownUnder 6 = .ok (.getfield 28, 3) := by decide +kernel
theorem dX3_allKnownUnder_9 : decode cX3_allKnownUnder 9 = .ok (.if_icmp .ge 35, 3) := by decide +kernel
theorem dX3_allKnownUnder_12 : decode cX3_allKnownUnder 12 = .ok (.aload_n 0, 1) := by decide +kernel
theorem dX3_allKnownUnder_13 : decode cX3_allKnownUnder 13 = .ok (.getfield 9, 3) := by decide +kernel
theorem dX3_allKnownUnder_16 : decode cX3_allKnownUnder 16 = .ok (.iload_n 3, 1) := by decide +kernel
theorem dX3_allKnownUnder_17 : decode cX3_allKnownUnder 17 = .ok (.iaload, 1) := by decide +kernel
theorem dX3_allKnownUnder_18 : decode cX3_allKnownUnder 18 = .ok (.iload_n 1, 1) := by decide +kernel
theorem dX3_allKnownUnder_19 : decode cX3_allKnownUnder 19 = .ok (.if_icmp .ne 19, 3) := by decide +kernel
theorem dX3_allKnownUnder_22 : decode cX3_allKnownUnder 22 = .ok (.iload_n 3, 1) := by decide +kernel
theorem dX3_allKnownUnder_23 : decode cX3_allKnownUnder 23 = .ok (.iload_n 2, 1) := by decide +kernel
theorem dX3_allKnownUnder_24 : decode cX3_allKnownUnder 24 = .ok (.if_icmp .eq 14, 3) := by decide +kernel
theorem dX3_allKnownUnder_27 : decode cX3_allKnownUnder 27 = .ok (.aload_n 0, 1) := by decide +kernel
theorem dX3_allKnownUnder_28 : decode cX3_allKnownUnder 28 = .ok (.getfield 22, 3) := by decide +kernel
theorem dX3_allKnownUnder_31 : decode cX3_allKnownUnder 31 = .ok (.iload_n 3, 1) := by decide +kernel
theorem dX3_allKnownUnder_32 : decode cX3_allKnownUnder 32 = .ok (.baload, 1) := by decide +kernel
theorem dX3_allKnownUnder_33 : decode cX3_allKnownUnder 33 = .ok (.ifCond .ne 5, 3) := by decide +kernel
theorem dX3_allKnownUnder_36 : decode cX3_allKnownUnder 36 = .ok (.iconst 0, 1) := by decide +kernel
theorem dX3_allKnownUnder_37 : decode cX3_allKnownUnder 37 = .ok (.ireturn, 1) := by decide +kernel
theorem dX3_allKnownUnder_38 : decode cX3_allKnownUnder 38 = .ok (.iinc 3 1, 3) := by decide +kernel
theorem dX3_allKnownUnder_41 : decode cX3_allKnownUnder 41 = .ok (.goto (-37), 3) := by decide +kernel
theorem dX3_allKnownUnder_44 : decode cX3_allKnownUnder 44 = .ok (.iconst 1, 1) := by decide +kernel
theorem dX3_allKnownUnder_45 : decode cX3_allKnownUnder 45 = .ok (.ireturn, 1) := by decide +kernel
theorem dX3_sumUnder_0 : decode cX3_sumUnder 0 = .ok (.iconst 0, 1) := by decide +kernel
theorem dX3_sumUnder_1 : decode cX3_sumUnder 1 = .ok (.istore_n 3, 1) := by decide +kernel
theorem dX3_sumUnder_2 : decode cX3_sumUnder 2 = .ok (.iload_n 1, 1) := by decide +kernel
theorem dX3_sumUnder_3 : decode cX3_sumUnder 3 = .ok (.iconst 1, 1) := by decide +kernel
theorem dX3_sumUnder_4 : decode cX3_sumUnder 4 = .ok (.iadd, 1) := by decide +kernel
theorem dX3_sumUnder_5 : decode cX3_sumUnder 5 = .ok (.istore 4, 2) := by decide +kernel
theorem dX3_sumUnder_7 : decode cX3_sumUnder 7 = .ok (.iload 4, 2) := by decide +kernel
theorem dX3_sumUnder_9 : decode cX3_sumUnder 9 = .ok (.aload_n 0, 1) := by decide +kernel
theorem dX3_sumUnder_10 : decode cX3_sumUnder 10 = .ok (.getfield 28, 3) := by decide +kernel
theorem dX3_sumUnder_13 : decode cX3_sumUnder 13 = .ok (.if_icmp .ge 36, 3) := by decide +kernel
theorem dX3_sumUnder_16 : decode cX3_sumUnder 16 = .ok (.aload_n 0, 1) := by decide +kernel
theorem dX3_sumUnder_17 : decode cX3_sumUnder 17 = .ok (.getfield 9, 3) := by decide +kernel
theorem dX3_sumUnder_20 : decode cX3_sumUnder 20 = .ok (.iload 4, 2) := by decide +kernel
theorem dX3_sumUnder_22 : decode cX3_sumUnder 22 = .ok (.iaload, 1) := by decide +kernel
theorem dX3_sumUnder_23 : decode cX3_sumUnder 23 = .ok (.iload_n 1, 1) := by decide +kernel
theorem dX3_sumUnder_24 : decode cX3_sumUnder 24 = .ok (.if_icmp .ne 19, 3) := by decide +kernel
theorem dX3_sumUnder_27 : decode cX3_sumUnder 27 = .ok (.iload 4, 2) := by decide +kernel
theorem dX3_sumUnder_29 : decode cX3_sumUnder 29 = .ok (.iload_n 2, 1) := by decide +kernel
theorem dX3_sumUnder_30 : decode cX3_sumUnder 30 = .ok (.if_icmp .eq 13, 3) := by decide +kernel
theorem dX3_sumUnder_33 : decode cX3_sumUnder 33 = .ok (.iload_n 3, 1) := by decide +kernel
theorem dX3_sumUnder_34 : decode cX3_sumUnder 34 = .ok (.aload_n 0, 1) := by decide +kernel
theorem dX3_sumUnder_35 : decode cX3_sumUnder 35 = .ok (.getfield 25, 3) := by decide +kernel
theorem dX3_sumUnder_38 : decode cX3_sumUnder 38 = .ok (.iload 4, 2) := by decide +kernel
theorem dX3_sumUnder_40 : decode cX3_sumUnder 40 = .ok (.iaload, 1) := by decide +kernel
theorem dX3_sumUnder_41 : decode cX3_sumUnder 41 = .ok (.iadd, 1) := by decide +kernel
theorem dX3_sumUnder_42 : decode cX3_sumUnder 42 = .ok (.istore_n 3, 1) := by decide +kernel
theorem dX3_sumUnder_43 : decode cX3_sumUnder 43 = .ok (.iinc 4 1, 3) := by decide +kernel
theorem dX3_sumUnder_46 : decode cX3_sumUnder 46 = .ok (.goto (-39), 3) := by decide +kernel
theorem dX3_sumUnder_49 : decode cX3_sumUnder 49 = .ok (.iload_n 3, 1) := by decide +kernel
theorem dX3_sumUnder_50 : decode cX3_sumUnder 50 = .ok (.ireturn, 1) := by decide +kernel
theorem dX3_isAtOdds_0 : decode cX3_isAtOdds 0 = .ok (.aload_n 0, 1) := by decide +kernel
theorem dX3_isAtOdds_1 : decode cX3_isAtOdds 1 = .ok (.getfield 22, 3) := by decide +kernel
theorem dX3_isAtOdds_4 : decode cX3_isAtOdds 4 = .ok (.iload_n 1, 1) := by decide +kernel
theorem dX3_isAtOdds_5 : decode cX3_isAtOdds 5 = .ok (.baload, 1) := by decide +kernel
theorem dX3_isAtOdds_6 : decode cX3_isAtOdds 6 = .ok (.ifCond .eq 41, 3) := by decide +kernel
theorem dX3_isAtOdds_9 : decode cX3_isAtOdds 9 = .ok (.aload_n 0, 1) := by decide +kernel
theorem dX3_isAtOdds_10 : decode cX3_isAtOdds 10 = .ok (.iload_n 1, 1) := by decide +kernel
theorem dX3_isAtOdds_11 : decode cX3_isAtOdds 11 = .ok (.invokevirtual 43, 3) := by decide +kernel
theorem dX3_isAtOdds_14 : decode cX3_isAtOdds 14 = .ok (.ifCond .eq 33, 3) := by decide +kernel
theorem dX3_isAtOdds_17 : decode cX3_isAtOdds 17 = .ok (.aload_n 0, 1) := by decide +kernel
theorem dX3_isAtOdds_18 : decode cX3_isAtOdds 18 = .ok (.iload_n 1, 1) := by decide +kernel
theorem dX3_isAtOdds_19 : decode cX3_isAtOdds 19 = .ok (.bipush (-4), 2) := by decide +kernel
theorem dX3_isAtOdds_21 : decode cX3_isAtOdds 21 = .ok (.invokevirtual 46, 3) := by decide +kernel
theorem dX3_isAtOdds_24 : decode cX3_isAtOdds 24 = .ok (.ifCond .eq 23, 3) := by decide +kernel
theorem dX3_isAtOdds_27 : decode cX3_isAtOdds 27 = .ok (.aload_n 0, 1) := by decide +kernel
theorem dX3_isAtOdds_28 : decode cX3_isAtOdds 28 = .ok (.iload_n 1, 1) := by decide +kernel
theorem dX3_isAtOdds_29 : decode cX3_isAtOdds 29 = .ok (.bipush (-4), 2) := by decide +kernel
theorem dX3_isAtOdds_31 : decode cX3_isAtOdds 31 = .ok (.invokevirtual 50, 3) := by decide +kernel
theorem dX3_isAtOdds_34 : decode cX3_isAtOdds 34 = .ok (.aload_n 0, 1) := by decide +kernel
theorem dX3_isAtOdds_35 : decode cX3_isAtOdds 35 = .ok (.getfield 25, 3) := by decide +kernel
theorem dX3_isAtOdds_38 : decode cX3_isAtOdds 38 = .ok (.iload_n 1, 1) := by decide +kernel
theorem dX3_isAtOdds_39 : decode cX3_isAtOdds 39 = .ok (.iaload, 1) := by decide +kernel
theorem dX3_isAtOdds_40 : decode cX3_isAtOdds 40 = .ok (.if_icmp .eq 7, 3) := by decide +kernel
theorem dX3_isAtOdds_43 : decode cX3_isAtOdds 43 = .ok (.iconst 1, 1) := by decide +kernel
theorem dX3_isAtOdds_44 : decode cX3_isAtOdds 44 = .ok (.goto 4, 3) := by decide +kernel
theorem dX3_isAtOdds_47 : decode cX3_isAtOdds 47 = .ok (.iconst 0, 1) := by decide +kernel
theorem dX3_isAtOdds_48 : decode cX3_isAtOdds 48 = .ok (.ireturn, 1) := by decide +kernel
theorem dX3_countKnown_0 : decode cX3_countKnown 0 = .ok (.aload_n 0, 1) := by decide +kernel
theorem dX3_countKnown_1 : decode cX3_countKnown 1 = .ok (.invokevirtual 57, 3) := by decide +kernel
theorem dX3_countKnown_4 : decode cX3_countKnown 4 = .ok (.iconst 0, 1) := by decide +kernel
theorem dX3_countKnown_5 : decode cX3_countKnown 5 = .ok (.istore_n 1, 1) := by decide +kernel
theorem dX3_countKnown_6 : decode cX3_countKnown 6 = .ok (.iconst 0, 1) := by decide +kernel
theorem dX3_countKnown_7 : decode cX3_countKnown 7 = .ok (.istore_n 2, 1) := by decide +kernel
theorem dX3_countKnown_8 : decode cX3_countKnown 8 = .ok (.iload_n 2, 1) := by decide +kernel
theorem dX3_countKnown_9 : decode cX3_countKnown 9 = .ok (.aload_n 0, 1) := by decide +kernel
theorem dX3_countKnown_10 : decode cX3_countKnown 10 = .ok (.getfield 28, 3) := by decide +kernel
theorem dX3_countKnown_13 : decode cX3_countKnown 13 = .ok (.if_icmp .ge 21, 3) := by decide +kernel
theorem dX3_countKnown_16 : decode cX3_countKnown 16 = .ok (.aload_n 0, 1) := by decide +kernel
theorem dX3_countKnown_17 : decode cX3_countKnown 17 = .ok (.getfield 22, 3) := by decide +kernel
theorem dX3_countKnown_20 : decode cX3_countKnown 20 = .ok (.iload_n 2, 1) := by decide +kernel
theorem dX3_countKnown_21 : decode cX3_countKnown 21 = .ok (.baload, 1) := by decide +kernel
theorem dX3_countKnown_22 : decode cX3_countKnown 22 = .ok (.ifCond .eq 6, 3) := by decide +kernel
theorem dX3_countKnown_25 : decode cX3_countKnown 25 = .ok (.iinc 1 1, 3) := by decide +kernel
theorem dX3_countKnown_28 : decode cX3_countKnown 28 = .ok (.iinc 2 1, 3) := by decide +kernel
theorem dX3_countKnown_31 : decode cX3_countKnown 31 = .ok (.goto (-23), 3) := by decide +kernel
theorem dX3_countKnown_34 : decode cX3_countKnown 34 = .ok (.iload_n 1, 1) := by decide +kernel
theorem dX3_countKnown_35 : decode cX3_countKnown 35 = .ok (.ireturn, 1) := by decide +kernel
theorem dX4_init_0 : decode cX4_init 0 = .ok (.aload_n 0, 1) := by decide +kernel
theorem dX4_init_1 : decode cX4_init 1 = .ok (.invokespecial 3, 3) := by decide +kernel
theorem dX4_init_4 : decode cX4_init 4 = .ok (.aload_n 0, 1) := by decide +kernel
theorem dX4_init_5 : decode cX4_init 5 = .ok (.iconst 5, 1) := by decide +kernel
theorem dX4_init_6 : decode cX4_init 6 = .ok (.newarray .int, 2) := by decide +kernel
theorem dX4_init_8 : decode cX4_init 8 = .ok (.putfield 9, 3) := by decide +kernel
theorem dX4_init_11 : decode cX4_init 11 = .ok (.aload_n 0, 1) := by decide +kernel
theorem dX4_init_12 : decode cX4_init 12 = .ok (.iconst 5, 1) := by decide +kernel
theorem dX4_init_13 : decode cX4_init 13 = .ok (.newarray .int, 2) := by decide +kernel
theorem dX4_init_15 : decode cX4_init 15 = .ok (.putfield 15, 3) := by decide +kernel
theorem dX4_init_18 : decode cX4_init 18 = .ok (.aload_n 0, 1) := by decide +kernel
theorem dX4_init_19 : decode cX4_init 19 = .ok (.iconst 0, 1) := by decide +kernel
theorem dX4_init_20 : decode cX4_init 20 = .ok (.putfield 18, 3) := by decide +kernel
theorem dX4_init_23 : decode cX4_init 23 = .ok (.aload_n 0, 1) := by decide +kernel
theorem dX4_init_24 : decode cX4_init 24 = .ok (.iconst 5, 1) := by decide +kernel
theorem dX4_init_25 : decode cX4_init 25 = .ok (.newarray .int, 2) := by decide +kernel
theorem dX4_init_27 : decode cX4_init 27 = .ok (.putfield 22, 3) := by decide +kernel
theorem dX4_init_30 : decode cX4_init 30 = .ok (.aload_n 0, 1) := by decide +kernel
theorem dX4_init_31 : decode cX4_init 31 = .ok (.iconst 5, 1) := by decide +kernel
theorem dX4_init_32 : decode cX4_init 32 = .ok (.newarray .int, 2) := by decide +kernel
theorem dX4_init_34 : decode cX4_init 34 = .ok (.putfield 25, 3) := by decide +kernel
theorem dX4_init_37 : decode cX4_init 37 = .ok (.aload_n 0, 1) := by decide +kernel
theorem dX4_init_38 : decode cX4_init 38 = .ok (.bipush 8, 2) := by decide +kernel
theorem dX4_init_40 : decode cX4_init 40 = .ok (.newarray .int, 2) := by decide +kernel
theorem dX4_init_42 : decode cX4_init 42 = .ok (.putfield 28, 3) := by decide +kernel
theorem dX4_init_45 : decode cX4_init 45 = .ok (.aload_n 0, 1) := by decide +kernel
theorem dX4_init_46 : decode cX4_init 46 = .ok (.bipush 6, 2) := by decide +kernel
theorem dX4_init_48 : decode cX4_init 48 = .ok (.bipush 8, 2) := by decide +kernel
theorem dX4_init_50 : decode cX4_init 50 = .ok (.multianewarray 31 2, 4) := by decide +kernel
theorem dX4_init_54 : decode cX4_init 54 = .ok (.putfield 33, 3) := by decide +kernel
theorem dX4_init_57 : decode cX4_init 57 = .ok (.aload_n 0, 1) := by decide +kernel
theorem dX4_init_58 : decode cX4_init 58 = .ok (.ldc 36, 2) := by decide +kernel
theorem dX4_init_60 : decode cX4_init 60 = .ok (.putfield 37, 3) := by decide +kernel
theorem dX4_init_63 : decode cX4_init 63 = .ok (.return_, 1) := by decide +kernel
theorem dX4_add_0 : decode cX4_add 0 = .ok (.aload_n 0, 1) := by decide +kernel
theorem dX4_add_1 : decode cX4_add 1 = .ok (.getfield 18, 3) := by decide +kernel
theorem dX4_add_4 : decode cX4_add 4 = .ok (.iconst 5, 1) := by decide +kernel
theorem dX4_add_5 : decode cX4_add 5 = .ok (.if_icmp .lt 6, 3) := by decide +kernel
theorem dX4_add_8 : decode cX4_add 8 = .ok (.bipush (-3), 2) := by decide +kernel
theorem dX4_add_10 : decode cX4_add 10 = .ok (.ireturn, 1) := by decide +kernel
theorem dX4_add_11 : decode cX4_add 11 = .ok (.aload_n 0, 1) := by decide +kernel
theorem dX4_add_12 : decode cX4_add 12 = .ok (.getfield 9, 3) := by decide +kernel
theorem dX4_add_15 : decode cX4_add 15 = .ok (.aload_n 0, 1) := by decide +kernel
theorem dX4_add_16 : decode cX4_add 16 = .ok (.getfield 18, 3) := by decide +kernel
theorem dX4_add_19 : decode cX4_add 19 = .ok (.iload_n 1, 1) := by decide +kernel
theorem dX4_add_20 : decode cX4_add 20 = .ok (.iastore, 1) := by decide +kernel
theorem dX4_add_21 : decode cX4_add 21 = .ok (.aload_n 0, 1) := by decide +kernel
theorem dX4_add_22 : decode cX4_add 22 = .ok (.getfield 15, 3) := by decide +kernel
theorem dX4_add_25 : decode cX4_add 25 = .ok (.aload_n 0, 1) := by decide +kernel
theorem dX4_add_26 : decode cX4_add 26 = .ok (.getfield 18, 3) := by decide +kernel
theorem dX4_add_29 : decode cX4_add 29 = .ok (.iload_n 2, 1) := by decide +kernel
theorem dX4_add_30 : decode cX4_add 30 = .ok (.iastore, 1) := by decide +kernel
theorem dX4_add_31 : decode cX4_add 31 = .ok (.aload_n 0, 1) := by decide +kernel
theorem dX4_add_32 : decode cX4_add 32 = .ok (.dup, 1) := by decide +kernel
theorem dX4_add_33 : decode cX4_add 33 = .ok (.getfield 18, 3) := by decide +kernel
theorem dX4_add_36 : decode cX4_add 36 = .ok (.iconst 1, 1) := by decide +kernel
theorem dX4_add_37 : decode cX4_add 37 = .ok (.iadd, 1) := by decide +kernel
theorem dX4_add_38 : decode cX4_add 38 = .ok (.putfield 18, 3) := by decide +kernel
theorem dX4_add_41 : decode cX4_add 41 = .ok (.aload_n 0, 1) := by decide +kernel
theorem dX4_add_42 : decode cX4_add 42 = .ok (.getfield 18, 3) := by decide +kernel
theorem dX4_add_45 : decode cX4_add 45 = .ok (.iconst 1, 1) := by decide +kernel
theorem dX4_add_46 : decode cX4_add 46 = .ok (.isub, 1) := by decide +kernel
theorem dX4_add_47 : decode cX4_add 47 = .ok (.ireturn, 1) := by decide +kernel
theorem dX4_countAll_0 : decode cX4_countAll 0 = .ok (.aload_n 0, 1) := by decide +kernel
theorem dX4_countAll_1 : decode cX4_countAll 1 = .ok (.aload_n 1, 1) := by decide +kernel
theorem dX4_countAll_2 : decode cX4_countAll 2 = .ok (.invokevirtual 40, 3) := by decide +kernel
theorem dX4_countAll_5 : decode cX4_countAll 5 = .ok (.aload_n 0, 1) := by decide +kernel
theorem dX4_countAll_6 : decode cX4_countAll 6 = .ok (.aload_n 1, 1) := by decide +kernel
theorem dX4_countAll_7 : decode cX4_countAll 7 = .ok (.iconst 0, 1) := by decide +kernel
theorem dX4_countAll_8 : decode cX4_countAll 8 = .ok (.invokevirtual 44, 3) := by decide +kernel
theorem dX4_countAll_11 : decode cX4_countAll 11 = .ok (.ireturn, 1) := by decide +kernel
theorem dX4_leastWarmth_0 : decode cX4_leastWarmth 0 = .ok (.aload_n 0, 1) := by decide +kernel
theorem dX4_leastWarmth_1 : decode cX4_leastWarmth 1 = .ok (.aload_n 1, 1) := by decide +kernel
theorem dX4_leastWarmth_2 : decode cX4_leastWarmth 2 = .ok (.invokevirtual 40, 3) := by decide +kernel
theorem dX4_leastWarmth_5 : decode cX4_leastWarmth 5 = .ok (.iconst 0, 1) := by decide +kernel
theorem dX4_leastWarmth_6 : decode cX4_leastWarmth 6 = .ok (.istore_n 2, 1) := by decide +kernel
theorem dX4_leastWarmth_7 : decode cX4_leastWarmth 7 = .ok (.iload_n 2, 1) := by decide +kernel
theorem dX4_leastWarmth_8 : decode cX4_leastWarmth 8 = .ok (.aload_n 1, 1) := by decide +kernel
theorem dX4_leastWarmth_9 : decode cX4_leastWarmth 9 = .ok (.getfield 48, 3) := by decide +kernel
theorem dX4_leastWarmth_12 : decode cX4_leastWarmth 12 = .ok (.if_icmp .ge 22, 3) := by decide +kernel
theorem dX4_leastWarmth_15 : decode cX4_leastWarmth 15 = .ok (.aload_n 0, 1) := by decide +kernel
theorem dX4_leastWarmth_16 : decode cX4_leastWarmth 16 = .ok (.getfield 33, 3) := by decide +kernel
theorem dX4_leastWarmth_19 : decode cX4_leastWarmth 19 = .ok (.iconst 0, 1) := by decide +kernel
theorem dX4_leastWarmth_20 : decode cX4_leastWarmth 20 = .ok (.aaload, 1) := by decide +kernel
theorem dX4_leastWarmth_21 : decode cX4_leastWarmth 21 = .ok (.iload_n 2, 1) := by decide +kernel
theorem dX4_leastWarmth_22 : decode cX4_leastWarmth 22 = .ok (.aload_n 1, 1) := by decide +kernel
theorem dX4_leastWarmth_23 : decode cX4_leastWarmth 23 = .ok (.iload_n 2, 1) := by decide +kernel
theorem dX4_leastWarmth_24 : decode cX4_leastWarmth 24 = .ok (.invokevirtual 53, 3) := by decide +kernel
theorem dX4_leastWarmth_27 : decode cX4_leastWarmth 27 = .ok (.iastore, 1) := by decide +kernel
theorem dX4_leastWarmth_28 : decode cX4_leastWarmth 28 = .ok (.iinc 2 1, 3) := by decide +kernel
theorem dX4_leastWarmth_31 : decode cX4_leastWarmth 31 = .ok (.goto (-24), 3) := by decide +kernel
theorem dX4_leastWarmth_34 : decode cX4_leastWarmth 34 = .ok (.aload_n 0, 1) := by decide +kernel
theorem dX4_leastWarmth_35 : decode cX4_leastWarmth 35 = .ok (.ldc 36, 2) := by decide +kernel
theorem dX4_leastWarmth_37 : decode cX4_leastWarmth 37 = .ok (.putfield 37, 3) := by decide +kernel
theorem dX4_leastWarmth_40 : decode cX4_leastWarmth 40 = .ok (.aload_n 0, 1) := by decide +kernel
theorem dX4_leastWarmth_41 : decode cX4_leastWarmth 41 = .ok (.aload_n 1, 1) := by decide +kernel
theorem dX4_leastWarmth_42 : decode cX4_leastWarmth 42 = .ok (.iconst 0, 1) := by decide +kernel
theorem dX4_leastWarmth_43 : decode cX4_leastWarmth 43 = .ok (.invokevirtual 57, 3) := by decide +kernel
theorem dX4_leastWarmth_46 : decode cX4_leastWarmth 46 = .ok (.aload_n 0, 1) := by decide +kernel
theorem dX4_leastWarmth_47 : decode cX4_leastWarmth 47 = .ok (.getfield 37, 3) := by decide +kernel
theorem dX4_leastWarmth_50 : decode cX4_leastWarmth 50 = .ok (.ldc 36, 2) := by decide +kernel
theorem dX4_leastWarmth_52 : decode cX4_leastWarmth 52 = .ok (.if_icmp .ne 8, 3) := by decide +kernel
theorem dX4_leastWarmth_55 : decode cX4_leastWarmth 55 = .ok (.bipush (-4), 2) := by decide +kernel
theorem dX4_leastWarmth_57 : decode cX4_leastWarmth 57 = .ok (.goto 7, 3) := by decide +kernel
theorem dX4_leastWarmth_60 : decode cX4_leastWarmth 60 = .ok (.aload_n 0, 1) := by decide +kernel
theorem dX4_leastWarmth_61 : decode cX4_leastWarmth 61 = .ok (.getfield 37, 3) := by decide +kernel
theorem dX4_leastWarmth_64 : decode cX4_leastWarmth 64 = .ok (.ireturn, 1) := by decide +kernel
theorem dX4_freeAll_0 : decode cX4_freeAll 0 = .ok (.iconst 0, 1) := by decide +kernel
theorem dX4_freeAll_1 : decode cX4_freeAll 1 = .ok (.istore_n 2, 1) := by decide +kernel
theorem dX4_freeAll_2 : decode cX4_freeAll 2 = .ok (.iload_n 2, 1) := by decide +kernel
theorem dX4_freeAll_3 : decode cX4_freeAll 3 = .ok (.aload_n 1, 1) := by decide +kernel
theorem dX4_freeAll_4 : decode cX4_freeAll 4 = .ok (.getfield 48, 3) := by decide +kernel
theorem dX4_freeAll_7 : decode cX4_freeAll 7 = .ok (.if_icmp .ge 21, 3) := by decide +kernel
theorem dX4_freeAll_10 : decode cX4_freeAll 10 = .ok (.aload_n 0, 1) := by decide +kernel
theorem dX4_freeAll_11 : decode cX4_freeAll 11 = .ok (.getfield 28, 3) := by decide +kernel
theorem dX4_freeAll_14 : decode cX4_freeAll 14 = .ok (.iload_n 2, 1) := by decide +kernel
theorem dX4_freeAll_15 : decode cX4_freeAll 15 = .ok (.aload_n 1, 1) := by decide +kernel
theorem dX4_freeAll_16 : decode cX4_freeAll 16 = .ok (.getfield 61, 3) := by decide +kernel
theorem dX4_freeAll_19 : decode cX4_freeAll 19 = .ok (.iload_n 2, 1) := by decide +kernel
theorem dX4_freeAll_20 : decode cX4_freeAll 20 = .ok (.iaload, 1) := by decide +kernel
theorem dX4_freeAll_21 : decode cX4_freeAll 21 = .ok (.iastore, 1) := by decide +kernel
theorem dX4_freeAll_22 : decode cX4_freeAll 22 = .ok (.iinc 2 1, 3) := by decide +kernel
theorem dX4_freeAll_25 : decode cX4_freeAll 25 = .ok (.goto (-23), 3) := by decide +kernel
theorem dX4_freeAll_28 : decode cX4_freeAll 28 = .ok (.return_, 1) := by decide +kernel
theorem dX4_countFrom_0 : decode cX4_countFrom 0 = .ok (.iload_n 2, 1) := by decide +kernel
theorem dX4_countFrom_1 : decode cX4_countFrom 1 = .ok (.aload_n 0, 1) := by decide +kernel
theorem dX4_countFrom_2 : decode cX4_countFrom 2 = .ok (.getfield 18, 3) := by decide +kernel
theorem dX4_countFrom_5 : decode cX4_countFrom 5 = .ok (.if_icmp .lt 5, 3) := by decide +kernel
theorem dX4_countFrom_8 : decode cX4_countFrom 8 = .ok (.iconst 1, 1) := by decide +kernel
theorem dX4_countFrom_9 : decode cX4_countFrom 9 = .ok (.ireturn, 1) := by decide +kernel
theorem dX4_countFrom_10 : decode cX4_countFrom 10 = .ok (.iconst 0, 1) := by decide +kernel
theorem dX4_countFrom_11 : decode cX4_countFrom 11 = .ok (.istore_n 3, 1) := by decide +kernel
theorem dX4_countFrom_12 : decode cX4_countFrom 12 = .ok (.iconst 0, 1) := by decide +kernel
theorem dX4_countFrom_13 : decode cX4_countFrom 13 = .ok (.istore 4, 2) := by decide +kernel
theorem dX4_countFrom_15 : decode cX4_countFrom 15 = .ok (.iload 4, 2) := by decide +kernel
theorem dX4_countFrom_17 : decode cX4_countFrom 17 = .ok (.aload_n 1, 1) := by decide +kernel
theorem dX4_countFrom_18 : decode cX4_countFrom 18 = .ok (.getfield 48, 3) := by decide +kernel
theorem dX4_countFrom_21 : decode cX4_countFrom 21 = .ok (.if_icmp .ge 68, 3) := by decide +kernel
theorem dX4_countFrom_24 : decode cX4_countFrom 24 = .ok (.aload_n 0, 1) := by decide +kernel
theorem dX4_countFrom_25 : decode cX4_countFrom 25 = .ok (.getfield 28, 3) := by decide +kernel
theorem dX4_countFrom_28 : decode cX4_countFrom 28 = .ok (.iload 4, 2) := by decide +kernel
theorem dX4_countFrom_30 : decode cX4_countFrom 30 = .ok (.iaload, 1) := by decide +kernel
theorem dX4_countFrom_31 : decode cX4_countFrom 31 = .ok (.aload_n 0, 1) := by decide +kernel
theorem dX4_countFrom_32 : decode cX4_countFrom 32 = .ok (.getfield 15, 3) := by decide +kernel
theorem dX4_countFrom_35 : decode cX4_countFrom 35 = .ok (.iload_n 2, 1) := by decide +kernel
theorem dX4_countFrom_36 : decode cX4_countFrom 36 = .ok (.iaload, 1) := by decide +kernel
theorem dX4_countFrom_37 : decode cX4_countFrom 37 = .ok (.if_icmp .lt 46, 3) := by decide +kernel
theorem dX4_countFrom_40 : decode cX4_countFrom 40 = .ok (.aload_n 0, 1) := by decide +kernel
theorem dX4_countFrom_41 : decode cX4_countFrom 41 = .ok (.getfield 28, 3) := by decide +kernel
theorem dX4_countFrom_44 : decode cX4_countFrom 44 = .ok (.iload 4, 2) := by decide +kernel
theorem dX4_countFrom_46 : decode cX4_countFrom 46 = .ok (.dup2, 1) := by decide +kernel
theorem dX4_countFrom_47 : decode cX4_countFrom 47 = .ok (.iaload, 1) := by decide +kernel
theorem dX4_countFrom_48 : decode cX4_countFrom 48 = .ok (.aload_n 0, 1) := by decide +kernel
theorem dX4_countFrom_49 : decode cX4_countFrom 49 = .ok (.getfield 15, 3) := by decide +kernel
theorem dX4_countFrom_52 : decode cX4_countFrom 52 = .ok (.iload_n 2, 1) := by decide +kernel
theorem dX4_countFrom_53 : decode cX4_countFrom 53 = .ok (.iaload, 1) := by decide +kernel
theorem dX4_countFrom_54 : decode cX4_countFrom 54 = .ok (.isub, 1) := by decide +kernel
theorem dX4_countFrom_55 : decode cX4_countFrom 55 = .ok (.iastore, 1) := by decide +kernel
theorem dX4_countFrom_56 : decode cX4_countFrom 56 = .ok (.iload_n 3, 1) := by decide +kernel
theorem dX4_countFrom_57 : decode cX4_countFrom 57 = .ok (.aload_n 0, 1) := by decide +kernel
theorem dX4_countFrom_58 : decode cX4_countFrom 58 = .ok (.aload_n 1, 1) := by decide +kernel
theorem dX4_countFrom_59 : decode cX4_countFrom 59 = .ok (.iload_n 2, 1) := by decide +kernel
theorem dX4_countFrom_60 : decode cX4_countFrom 60 = .ok (.iconst 1, 1) := by decide +kernel
theorem dX4_countFrom_61 : decode cX4_countFrom 61 = .ok (.iadd, 1) := by decide +kernel
theorem dX4_countFrom_62 : decode cX4_countFrom 62 = .ok (.invokevirtual 44, 3) := by decide +kernel
theorem dX4_countFrom_65 : decode cX4_countFrom 65 = .ok (.iadd, 1) := by decide +kernel
theorem dX4_countFrom_66 : decode cX4_countFrom 66 = .ok (.istore_n 3, 1) := by decide +kernel
theorem dX4_countFrom_67 : decode cX4_countFrom 67 = .ok (.aload_n 0, 1) := by decide +kernel
theorem dX4_countFrom_68 : decode cX4_countFrom 68 = .ok (.getfield 28, 3) := by decide +kernel
theorem dX4_countFrom_71 : decode cX4_countFrom 71 = .ok (.iload 4, 2) := by decide +kernel
theorem dX4_countFrom_73 : decode cX4_countFrom 73 = .ok (.dup2, 1) := by decide +kernel
theorem dX4_countFrom_74 : decode cX4_countFrom 74 = .ok (.iaload, 1) := by decide +kernel
theorem dX4_countFrom_75 : decode cX4_countFrom 75 = .ok (.aload_n 0, 1) := by decide +kernel
theorem dX4_countFrom_76 : decode cX4_countFrom 76 = .ok (.getfield 15, 3) := by decide +kernel
theorem dX4_countFrom_79 : decode cX4_countFrom 79 = .ok (.iload_n 2, 1) := by decide +kernel
theorem dX4_countFrom_80 : decode cX4_countFrom 80 = .ok (.iaload, 1) := by decide +kernel
theorem dX4_countFrom_81 : decode cX4_countFrom 81 = .ok (.iadd, 1) := by decide +kernel
theorem dX4_countFrom_82 : decode cX4_countFrom 82 = .ok (.iastore, 1) := by decide +kernel
theorem dX4_countFrom_83 : decode cX4_countFrom 83 = .ok (.iinc 4 1, 3) := by decide +kernel
theorem dX4_countFrom_86 : decode cX4_countFrom 86 = .ok (.goto (-71), 3) := by decide +kernel
theorem dX4_countFrom_89 : decode cX4_countFrom 89 = .ok (.iload_n 3, 1) := by decide +kernel
theorem dX4_countFrom_90 : decode cX4_countFrom 90 = .ok (.ireturn, 1) := by decide +kernel
theorem dX4_searchFrom_0 : decode cX4_searchFrom 0 = .ok (.aload_n 0, 1) := by decide +kernel
theorem dX4_searchFrom_1 : decode cX4_searchFrom 1 = .ok (.aload_n 1, 1) := by decide +kernel
theorem dX4_searchFrom_2 : decode cX4_searchFrom 2 = .ok (.iload_n 2, 1) := by decide +kernel
theorem dX4_searchFrom_3 : decode cX4_searchFrom 3 = .ok (.invokevirtual 62, 3) := by decide +kernel
theorem dX4_searchFrom_6 : decode cX4_searchFrom 6 = .ok (.istore_n 3, 1) := by decide +kernel
theorem dX4_searchFrom_7 : decode cX4_searchFrom 7 = .ok (.iload_n 3, 1) := by decide +kernel
theorem dX4_searchFrom_8 : decode cX4_searchFrom 8 = .ok (.aload_n 0, 1) := by decide +kernel
theorem dX4_searchFrom_9 : decode cX4_searchFrom 9 = .ok (.getfield 37, 3) := by decide +kernel
theorem dX4_searchFrom_12 : decode cX4_searchFrom 12 = .ok (.if_icmp .lt 4, 3) := by decide +kernel
theorem dX4_searchFrom_15 : decode cX4_searchFrom 15 = .ok (.return_, 1) := by decide +kernel
theorem dX4_searchFrom_16 : decode cX4_searchFrom 16 = .ok (.iload_n 2, 1) := by decide +kernel
theorem dX4_searchFrom_17 : decode cX4_searchFrom 17 = .ok (.aload_n 0, 1) := by decide +kernel
theorem dX4_searchFrom_18 : decode cX4_searchFrom 18 = .ok (.getfield 18, 3) := by decide +kernel
theorem dX4_searchFrom_21 : decode cX4_searchFrom 21 = .ok (.if_icmp .lt 23, 3) := by decide +kernel
theorem dX4_searchFrom_24 : decode cX4_searchFrom 24 = .ok (.aload_n 0, 1) := by decide +kernel
theorem dX4_searchFrom_25 : decode cX4_searchFrom 25 = .ok (.iload_n 3, 1) := by decide +kernel
theorem dX4_searchFrom_26 : decode cX4_searchFrom 26 = .ok (.putfield 37, 3) := by decide +kernel
theorem dX4_searchFrom_29 : decode cX4_searchFrom 29 = .ok (.aload_n 0, 1) := by decide +kernel
theorem dX4_searchFrom_30 : decode cX4_searchFrom 30 = .ok (.getfield 25, 3) := by decide +kernel
theorem dX4_searchFrom_33 : decode cX4_searchFrom 33 = .ok (.iconst 0, 1) := by decide +kernel
theorem dX4_searchFrom_34 : decode cX4_searchFrom 34 = .ok (.aload_n 0, 1) := by decide +kernel
theorem dX4_searchFrom_35 : decode cX4_searchFrom 35 = .ok (.getfield 22, 3) := by decide +kernel
theorem dX4_searchFrom_38 : decode cX4_searchFrom 38 = .ok (.iconst 0, 1) := by decide +kernel
theorem dX4_searchFrom_39 : decode cX4_searchFrom 39 = .ok (.iconst 5, 1) := by decide +kernel
theorem dX4_searchFrom_40 : decode cX4_searchFrom 40 = .ok (.invokestatic 65, 3) := by decide +kernel
theorem dX4_searchFrom_43 : decode cX4_searchFrom 43 = .ok (.return_, 1) := by decide +kernel
theorem dX4_searchFrom_44 : decode cX4_searchFrom 44 = .ok (.iconst 0, 1) := by decide +kernel
theorem dX4_searchFrom_45 : decode cX4_searchFrom 45 = .ok (.istore 4, 2) := by decide +kernel
theorem dX4_searchFrom_47 : decode cX4_searchFrom 47 = .ok (.iload 4, 2) := by decide +kernel
theorem dX4_searchFrom_49 : decode cX4_searchFrom 49 = .ok (.aload_n 1, 1) := by decide +kernel
theorem dX4_searchFrom_50 : decode cX4_searchFrom 50 = .ok (.getfield 48, 3) := by decide +kernel
theorem dX4_searchFrom_53 : decode cX4_searchFrom 53 = .ok (.if_icmp .ge 81, 3) := by decide +kernel
theorem dX4_searchFrom_56 : decode cX4_searchFrom 56 = .ok (.aload_n 0, 1) := by decide +kernel
theorem dX4_searchFrom_57 : decode cX4_searchFrom 57 = .ok (.getfield 28, 3) := by decide +kernel
theorem dX4_searchFrom_60 : decode cX4_searchFrom 60 = .ok (.iload 4, 2) := by decide +kernel
theorem dX4_searchFrom_62 : decode cX4_searchFrom 62 = .ok (.iaload, 1) := by decide +kernel
theorem dX4_searchFrom_63 : decode cX4_searchFrom 63 = .ok (.aload_n 0, 1) := by decide +kernel
theorem dX4_searchFrom_64 : decode cX4_searchFrom 64 = .ok (.getfield 15, 3) := by decide +kernel
theorem dX4_searchFrom_67 : decode cX4_searchFrom 67 = .ok (.iload_n 2, 1) := by decide +kernel
theorem dX4_searchFrom_68 : decode cX4_searchFrom 68 = .ok (.iaload, 1) := by decide +kernel
theorem dX4_searchFrom_69 : decode cX4_searchFrom 69 = .ok (.if_icmp .lt 59, 3) := by decide +kernel
theorem dX4_searchFrom_72 : decode cX4_searchFrom 72 = .ok (.aload_n 0, 1) := by decide +kernel
theorem dX4_searchFrom_73 : decode cX4_searchFrom 73 = .ok (.getfield 25, 3) := by decide +kernel
theorem dX4_searchFrom_76 : decode cX4_searchFrom 76 = .ok (.iload_n 2, 1) := by decide +kernel
theorem dX4_searchFrom_77 : decode cX4_searchFrom 77 = .ok (.iload 4, 2) := by decide +kernel
theorem dX4_searchFrom_79 : decode cX4_searchFrom 79 = .ok (.iastore, 1) := by decide +kernel
theorem dX4_searchFrom_80 : decode cX4_searchFrom 80 = .ok (.aload_n 0, 1) := by decide +kernel
theorem dX4_searchFrom_81 : decode cX4_searchFrom 81 = .ok (.aload_n 1, 1) := by decide +kernel
theorem dX4_searchFrom_82 : decode cX4_searchFrom 82 = .ok (.iload_n 2, 1) := by decide +kernel
theorem dX4_searchFrom_83 : decode cX4_searchFrom 83 = .ok (.iload 4, 2) := by decide +kernel
theorem dX4_searchFrom_85 : decode cX4_searchFrom 85 = .ok (.invokevirtual 71, 3) := by decide +kernel
theorem dX4_searchFrom_88 : decode cX4_searchFrom 88 = .ok (.aload_n 0, 1) := by decide +kernel
theorem dX4_searchFrom_89 : decode cX4_searchFrom 89 = .ok (.getfield 28, 3) := by decide +kernel
theorem dX4_searchFrom_92 : decode cX4_searchFrom 92 = .ok (.iload 4, 2) := by decide +kernel
theorem dX4_searchFrom_94 : decode cX4_searchFrom 94 = .ok (.dup2, 1) := by decide +kernel
theorem dX4_searchFrom_95 : decode cX4_searchFrom 95 = .ok (.iaload, 1) := by decide +kernel
theorem dX4_searchFrom_96 : decode cX4_searchFrom 96 = .ok (.aload_n 0, 1) := by decide +kernel
theorem dX4_searchFrom_97 : decode cX4_searchFrom 97 = .ok (.getfield 15, 3) := by decide +kernel
theorem dX4_searchFrom_100 : decode cX4_searchFrom 100 = .ok (.iload_n 2, 1) := by decide +kernel
theorem dX4_searchFrom_101 : decode cX4_searchFrom 101 = .ok (.iaload, 1) := by decide +kernel
theorem dX4_searchFrom_102 : decode cX4_searchFrom 102 = .ok (.isub, 1) := by decide +kernel
theorem dX4_searchFrom_103 : decode cX4_searchFrom 103 = .ok (.iastore, 1) := by decide +kernel
theorem dX4_searchFrom_104 : decode cX4_searchFrom 104 = .ok (.aload_n 0, 1) := by decide +kernel
theorem dX4_searchFrom_105 : decode cX4_searchFrom 105 = .ok (.aload_n 1, 1) := by decide +kernel
theorem dX4_searchFrom_106 : decode cX4_searchFrom 106 = .ok (.iload_n 2, 1) := by decide +kernel
theorem dX4_searchFrom_107 : decode cX4_searchFrom 107 = .ok (.iconst 1, 1) := by decide +kernel
theorem dX4_searchFrom_108 : decode cX4_searchFrom 108 = .ok (.iadd, 1) := by decide +kernel
theorem dX4_searchFrom_109 : decode cX4_searchFrom 109 = .ok (.invokevirtual 57, 3) := by decide +kernel
theorem dX4_searchFrom_112 : decode cX4_searchFrom 112 = .ok (.aload_n 0, 1) := by decide +kernel
theorem dX4_searchFrom_113 : decode cX4_searchFrom 113 = .ok (.getfield 28, 3) := by decide +kernel
theorem dX4_searchFrom_116 : decode cX4_searchFrom 116 = .ok (.iload 4, 2) := by decide +kernel
theorem dX4_searchFrom_118 : decode cX4_searchFrom 118 = .ok (.dup2, 1) := by decide +kernel
theorem dX4_searchFrom_119 : decode cX4_searchFrom 119 = .ok (.iaload, 1) := by decide +kernel
theorem dX4_searchFrom_120 : decode cX4_searchFrom 120 = .ok (.aload_n 0, 1) := by decide +kernel
theorem dX4_searchFrom_121 : decode cX4_searchFrom 121 = .ok (.getfield 15, 3) := by decide +kernel
theorem dX4_searchFrom_124 : decode cX4_searchFrom 124 = .ok (.iload_n 2, 1) := by decide +kernel
theorem dX4_searchFrom_125 : decode cX4_searchFrom 125 = .ok (.iaload, 1) := by decide +kernel
theorem dX4_searchFrom_126 : decode cX4_searchFrom 126 = .ok (.iadd, 1) := by decide +kernel
theorem dX4_searchFrom_127 : decode cX4_searchFrom 127 = .ok (.iastore, 1) := by decide +kernel
theorem dX4_searchFrom_128 : decode cX4_searchFrom 128 = .ok (.iinc 4 1, 3) := by decide +kernel
theorem dX4_searchFrom_131 : decode cX4_searchFrom 131 = .ok (.goto (-84), 3) := by decide +kernel
theorem dX4_searchFrom_134 : decode cX4_searchFrom 134 = .ok (.return_, 1) := by decide +kernel
theorem dX4_giveOff_0 : decode cX4_giveOff 0 = .ok (.iconst 0, 1) := by decide +kernel
theorem dX4_giveOff_1 : decode cX4_giveOff 1 = .ok (.istore 4, 2) := by decide +kernel
theorem dX4_giveOff_3 : decode cX4_giveOff 3 = .ok (.iload 4, 2) := by decide +kernel
theorem dX4_giveOff_5 : decode cX4_giveOff 5 = .ok (.aload_n 1, 1) := by decide +kernel
theorem dX4_giveOff_6 : decode cX4_giveOff 6 = .ok (.getfield 48, 3) := by decide +kernel
theorem dX4_giveOff_9 : decode cX4_giveOff 9 = .ok (.if_icmp .ge 46, 3) := by decide +kernel
theorem dX4_giveOff_12 : decode cX4_giveOff 12 = .ok (.aload_n 0, 1) := by decide +kernel
theorem dX4_giveOff_13 : decode cX4_giveOff 13 = .ok (.getfield 33, 3) := by decide +kernel
theorem dX4_giveOff_16 : decode cX4_giveOff 16 = .ok (.iload_n 2, 1) := by decide +kernel
theorem dX4_giveOff_17 : decode cX4_giveOff 17 = .ok (.iconst 1, 1) := by decide +kernel
theorem dX4_giveOff_18 : decode cX4_giveOff 18 = .ok (.iadd, 1) := by decide +kernel
theorem dX4_giveOff_19 : decode cX4_giveOff 19 = .ok (.aaload, 1) := by decide +kernel
theorem dX4_giveOff_20 : decode cX4_giveOff 20 = .ok (.iload 4, 2) := by decide +kernel
theorem dX4_giveOff_22 : decode cX4_giveOff 22 = .ok (.aload_n 0, 1) := by decide +kernel
theorem dX4_giveOff_23 : decode cX4_giveOff 23 = .ok (.getfield 33, 3) := by decide +kernel
theorem dX4_giveOff_26 : decode cX4_giveOff 26 = .ok (.iload_n 2, 1) := by decide +kernel
theorem dX4_giveOff_27 : decode cX4_giveOff 27 = .ok (.aaload, 1) := by decide +kernel
theorem dX4_giveOff_28 : decode cX4_giveOff 28 = .ok (.iload 4, 2) := by decide +kernel
theorem dX4_giveOff_30 : decode cX4_giveOff 30 = .ok (.iaload, 1) := by decide +kernel
theorem dX4_giveOff_31 : decode cX4_giveOff 31 = .ok (.aload_n 0, 1) := by decide +kernel
theorem dX4_giveOff_32 : decode cX4_giveOff 32 = .ok (.getfield 9, 3) := by decide +kernel
theorem dX4_giveOff_35 : decode cX4_giveOff 35 = .ok (.iload_n 2, 1) := by decide +kernel
theorem dX4_giveOff_36 : decode cX4_giveOff 36 = .ok (.iaload, 1) := by decide +kernel
theorem dX4_giveOff_37 : decode cX4_giveOff 37 = .ok (.aload_n 1, 1) := by decide +kernel
theorem dX4_giveOff_38 : decode cX4_giveOff 38 = .ok (.getfield 75, 3) := by decide +kernel
theorem dX4_giveOff_41 : decode cX4_giveOff 41 = .ok (.iload 4, 2) := by decide +kernel
theorem dX4_giveOff_43 : decode cX4_giveOff 43 = .ok (.aaload, 1) := by decide +kernel
theorem dX4_giveOff_44 : decode cX4_giveOff 44 = .ok (.iload_n 3, 1) := by decide +kernel
theorem dX4_giveOff_45 : decode cX4_giveOff 45 = .ok (.iaload, 1) := by decide +kernel
theorem dX4_giveOff_46 : decode cX4_giveOff 46 = .ok (.imul, 1) := by decide +kernel
theorem dX4_giveOff_47 : decode cX4_giveOff 47 = .ok (.iadd, 1) := by decide +kernel
theorem dX4_giveOff_48 : decode cX4_giveOff 48 = .ok (.iastore, 1) := by decide +kernel
theorem dX4_giveOff_49 : decode cX4_giveOff 49 = .ok (.iinc 4 1, 3) := by decide +kernel
theorem dX4_giveOff_52 : decode cX4_giveOff 52 = .ok (.goto (-49), 3) := by decide +kernel
theorem dX4_giveOff_55 : decode cX4_giveOff 55 = .ok (.return_, 1) := by decide +kernel
theorem dX4_greatest_0 : decode cX4_greatest 0 = .ok (.iconst 0, 1) := by decide +kernel
theorem dX4_greatest_1 : decode cX4_greatest 1 = .ok (.istore_n 3, 1) := by decide +kernel
theorem dX4_greatest_2 : decode cX4_greatest 2 = .ok (.iconst 0, 1) := by decide +kernel
theorem dX4_greatest_3 : decode cX4_greatest 3 = .ok (.istore 4, 2) := by decide +kernel
theorem dX4_greatest_5 : decode cX4_greatest 5 = .ok (.iload 4, 2) := by decide +kernel
theorem dX4_greatest_7 : decode cX4_greatest 7 = .ok (.aload_n 1, 1) := by decide +kernel
theorem dX4_greatest_8 : decode cX4_greatest 8 = .ok (.getfield 48, 3) := by decide +kernel
theorem dX4_greatest_11 : decode cX4_greatest 11 = .ok (.if_icmp .ge 23, 3) := by decide +kernel
theorem dX4_greatest_14 : decode cX4_greatest 14 = .ok (.iload_n 3, 1) := by decide +kernel
theorem dX4_greatest_15 : decode cX4_greatest 15 = .ok (.aload_n 0, 1) := by decide +kernel
theorem dX4_greatest_16 : decode cX4_greatest 16 = .ok (.getfield 33, 3) := by decide +kernel
theorem dX4_greatest_19 : decode cX4_greatest 19 = .ok (.iload_n 2, 1) := by decide +kernel
theorem dX4_greatest_20 : decode cX4_greatest 20 = .ok (.aaload, 1) := by decide +kernel
theorem dX4_greatest_21 : decode cX4_greatest 21 = .ok (.iload 4, 2) := by decide +kernel
theorem dX4_greatest_23 : decode cX4_greatest 23 = .ok (.iaload, 1) := by decide +kernel
theorem dX4_greatest_24 : decode cX4_greatest 24 = .ok (.invokestatic 78, 3) := by decide +kernel
theorem dX4_greatest_27 : decode cX4_greatest 27 = .ok (.istore_n 3, 1) := by decide +kernel
theorem dX4_greatest_28 : decode cX4_greatest 28 = .ok (.iinc 4 1, 3) := by decide +kernel
theorem dX4_greatest_31 : decode cX4_greatest 31 = .ok (.goto (-26), 3) := by decide +kernel
theorem dX4_greatest_34 : decode cX4_greatest 34 = .ok (.sipush 1000, 3) := by decide +kernel
theorem dX4_greatest_37 : decode cX4_greatest 37 = .ok (.aload_n 1, 1) := by decide +kernel
theorem dX4_greatest_38 : decode cX4_greatest 38 = .ok (.getfield 84, 3) := by decide +kernel
theorem dX4_greatest_41 : decode cX4_greatest 41 = .ok (.imul, 1) := by decide +kernel
theorem dX4_greatest_42 : decode cX4_greatest 42 = .ok (.iload_n 3, 1) := by decide +kernel
theorem dX4_greatest_43 : decode cX4_greatest 43 = .ok (.aload_n 1, 1) := by decide +kernel
theorem dX4_greatest_44 : decode cX4_greatest 44 = .ok (.getfield 87, 3) := by decide +kernel
theorem dX4_greatest_47 : decode cX4_greatest 47 = .ok (.invokestatic 90, 3) := by decide +kernel
theorem dX4_greatest_50 : decode cX4_greatest 50 = .ok (.iadd, 1) := by decide +kernel
theorem dX4_greatest_51 : decode cX4_greatest 51 = .ok (.ireturn, 1) := by decide +kernel
theorem dX5_init_0 : decode cX5_init 0 = .ok (.aload_n 0, 1) := by decide +kernel
theorem dX5_init_1 : decode cX5_init 1 = .ok (.invokespecial 3, 3) := by decide +kernel
theorem dX5_init_4 : decode cX5_init 4 = .ok (.aload_n 0, 1) := by decide +kernel
theorem dX5_init_5 : decode cX5_init 5 = .ok (.bipush 21, 2) := by decide +kernel
theorem dX5_init_7 : decode cX5_init 7 = .ok (.newarray .int, 2) := by decide +kernel
theorem dX5_init_9 : decode cX5_init 9 = .ok (.putfield 9, 3) := by decide +kernel
theorem dX5_init_12 : decode cX5_init 12 = .ok (.aload_n 0, 1) := by decide +kernel
theorem dX5_init_13 : decode cX5_init 13 = .ok (.bipush 10, 2) := by decide +kernel
theorem dX5_init_15 : decode cX5_init 15 = .ok (.putfield 15, 3) := by decide +kernel
theorem dX5_init_18 : decode cX5_init 18 = .ok (.aload_n 0, 1) := by decide +kernel
theorem dX5_init_19 : decode cX5_init 19 = .ok (.getfield 9, 3) := by decide +kernel
theorem dX5_init_22 : decode cX5_init 22 = .ok (.bipush 100, 2) := by decide +kernel
theorem dX5_init_24 : decode cX5_init 24 = .ok (.invokestatic 19, 3) := by decide +kernel
theorem dX5_init_27 : decode cX5_init 27 = .ok (.return_, 1) := by decide +kernel
theorem dX5_changeWeight_0 : decode cX5_changeWeight 0 = .ok (.aload_n 0, 1) := by decide +kernel
theorem dX5_changeWeight_1 : decode cX5_changeWeight 1 = .ok (.getfield 15, 3) := by decide +kernel
theorem dX5_changeWeight_4 : decode cX5_changeWeight 4 = .ok (.istore_n 2, 1) := by decide +kernel
theorem dX5_changeWeight_5 : decode cX5_changeWeight 5 = .ok (.aload_n 0, 1) := by decide +kernel
theorem dX5_changeWeight_6 : decode cX5_changeWeight 6 = .ok (.iload_n 1, 1) := by decide +kernel
theorem dX5_changeWeight_7 : decode cX5_changeWeight 7 = .ok (.putfield 15, 3) := by decide +kernel
theorem dX5_changeWeight_10 : decode cX5_changeWeight 10 = .ok (.iload_n 2, 1) := by decide +kernel
theorem dX5_changeWeight_11 : decode cX5_changeWeight 11 = .ok (.ireturn, 1) := by decide +kernel
theorem dX5_changeAir_0 : decode cX5_changeAir 0 = .ok (.aload_n 0, 1) := by decide +kernel
theorem dX5_changeAir_1 : decode cX5_changeAir 1 = .ok (.getfield 9, 3) := by decide +kernel
theorem dX5_changeAir_4 : decode cX5_changeAir 4 = .ok (.iload_n 1, 1) := by decide +kernel
theorem dX5_changeAir_5 : decode cX5_changeAir 5 = .ok (.bipush 10, 2) := by decide +kernel
theorem dX5_changeAir_7 : decode cX5_changeAir 7 = .ok (.isub, 1) := by decide +kernel
theorem dX5_changeAir_8 : decode cX5_changeAir 8 = .ok (.iaload, 1) := by decide +kernel
theorem dX5_changeAir_9 : decode cX5_changeAir 9 = .ok (.istore_n 3, 1) := by decide +kernel
theorem dX5_changeAir_10 : decode cX5_changeAir 10 = .ok (.aload_n 0, 1) := by decide +kernel
theorem dX5_changeAir_11 : decode cX5_changeAir 11 = .ok (.getfield 9, 3) := by decide +kernel
theorem dX5_changeAir_14 : decode cX5_changeAir 14 = .ok (.iload_n 1, 1) := by decide +kernel
theorem dX5_changeAir_15 : decode cX5_changeAir 15 = .ok (.bipush 10, 2) := by decide +kernel
theorem dX5_changeAir_17 : decode cX5_changeAir 17 = .ok (.isub, 1) := by decide +kernel
theorem dX5_changeAir_18 : decode cX5_changeAir 18 = .ok (.iload_n 2, 1) := by decide +kernel
theorem dX5_changeAir_19 : decode cX5_changeAir 19 = .ok (.iastore, 1) := by decide +kernel
theorem dX5_changeAir_20 : decode cX5_changeAir 20 = .ok (.iload_n 3, 1) := by decide +kernel
theorem dX5_changeAir_21 : decode cX5_changeAir 21 = .ok (.ireturn, 1) := by decide +kernel
theorem dX5_powerOf_0 : decode cX5_powerOf 0 = .ok (.aload_n 0, 1) := by decide +kernel
theorem dX5_powerOf_1 : decode cX5_powerOf 1 = .ok (.getfield 15, 3) := by decide +kernel
theorem dX5_powerOf_4 : decode cX5_powerOf 4 = .ok (.iload_n 2, 1) := by decide +kernel
theorem dX5_powerOf_5 : decode cX5_powerOf 5 = .ok (.imul, 1) := by decide +kernel
theorem dX5_powerOf_6 : decode cX5_powerOf 6 = .ok (.iload_n 2, 1) := by decide +kernel
theorem dX5_powerOf_7 : decode cX5_powerOf 7 = .ok (.imul, 1) := by decide +kernel
theorem dX5_powerOf_8 : decode cX5_powerOf 8 = .ok (.iload_n 2, 1) := by decide +kernel
theorem dX5_powerOf_9 : decode cX5_powerOf 9 = .ok (.imul, 1) := by decide +kernel
theorem dX5_powerOf_10 : decode cX5_powerOf 10 = .ok (.istore 4, 2) := by decide +kernel
theorem dX5_powerOf_12 : decode cX5_powerOf 12 = .ok (.iload 4, 2) := by decide +kernel
theorem dX5_powerOf_14 : decode cX5_powerOf 14 = .ok (.iload 4, 2) := by decide +kernel
theorem dX5_powerOf_16 : decode cX5_powerOf 16 = .ok (.iload_n 3, 1) := by decide +kernel
theorem dX5_powerOf_17 : decode cX5_powerOf 17 = .ok (.iadd, 1) := by decide +kernel
theorem dX5_powerOf_18 : decode cX5_powerOf 18 = .ok (.aload_n 0, 1) := by decide +kernel
theorem dX5_powerOf_19 : decode cX5_powerOf 19 = .ok (.getfield 9, 3) := by decide +kernel
theorem dX5_powerOf_22 : decode cX5_powerOf 22 = .ok (.iload_n 1, 1) := by decide +kernel
theorem dX5_powerOf_23 : decode cX5_powerOf 23 = .ok (.bipush 10, 2) := by decide +kernel
theorem dX5_powerOf_25 : decode cX5_powerOf 25 = .ok (.isub, 1) := by decide +kernel
theorem dX5_powerOf_26 : decode cX5_powerOf 26 = .ok (.iaload, 1) := by decide +kernel
theorem dX5_powerOf_27 : decode cX5_powerOf 27 = .ok (.imul, 1) := by decide +kernel
theorem dX5_powerOf_28 : decode cX5_powerOf 28 = .ok (.sipush 1000, 3) := by decide +kernel
theorem dX5_powerOf_31 : decode cX5_powerOf 31 = .ok (.invokestatic 25, 3) := by decide +kernel
theorem dX5_powerOf_34 : decode cX5_powerOf 34 = .ok (.iadd, 1) := by decide +kernel
theorem dX5_powerOf_35 : decode cX5_powerOf 35 = .ok (.ireturn, 1) := by decide +kernel
theorem dX6_init_0 : decode cX6_init 0 = .ok (.aload_n 0, 1) := by decide +kernel
theorem dX6_init_1 : decode cX6_init 1 = .ok (.invokespecial 3, 3) := by decide +kernel
theorem dX6_init_4 : decode cX6_init 4 = .ok (.aload_n 0, 1) := by decide +kernel
theorem dX6_init_5 : decode cX6_init 5 = .ok (.iconst 4, 1) := by decide +kernel
theorem dX6_init_6 : decode cX6_init 6 = .ok (.bipush 64, 2) := by decide +kernel
theorem dX6_init_8 : decode cX6_init 8 = .ok (.multianewarray 9 2, 4) := by decide +kernel
theorem dX6_init_12 : decode cX6_init 12 = .ok (.putfield 11, 3) := by decide +kernel
theorem dX6_init_15 : decode cX6_init 15 = .ok (.aload_n 0, 1) := by decide +kernel
theorem dX6_init_16 : decode cX6_init 16 = .ok (.iconst 4, 1) := by decide +kernel
theorem dX6_init_17 : decode cX6_init 17 = .ok (.newarray .int, 2) := by decide +kernel
theorem dX6_init_19 : decode cX6_init 19 = .ok (.putfield 16, 3) := by decide +kernel
theorem dX6_init_22 : decode cX6_init 22 = .ok (.aload_n 0, 1) := by decide +kernel
theorem dX6_init_23 : decode cX6_init 23 = .ok (.iconst 4, 1) := by decide +kernel
theorem dX6_init_24 : decode cX6_init 24 = .ok (.newarray .int, 2) := by decide +kernel
theorem dX6_init_26 : decode cX6_init 26 = .ok (.putfield 20, 3) := by decide +kernel
theorem dX6_init_29 : decode cX6_init 29 = .ok (.aload_n 0, 1) := by decide +kernel
theorem dX6_init_30 : decode cX6_init 30 = .ok (.getfield 20, 3) := by decide +kernel
theorem dX6_init_33 : decode cX6_init 33 = .ok (.iconst (-1), 1) := by decide +kernel
theorem dX6_init_34 : decode cX6_init 34 = .ok (.invokestatic 23, 3) := by decide +kernel
theorem dX6_init_37 : decode cX6_init 37 = .ok (.return_, 1) := by decide +kernel
theorem dX6_has_0 : decode cX6_has 0 = .ok (.iload_n 1, 1) := by decide +kernel
theorem dX6_has_1 : decode cX6_has 1 = .ok (.ifCond .lt 12, 3) := by decide +kernel
theorem dX6_has_4 : decode cX6_has 4 = .ok (.iload_n 1, 1) := by decide +kernel
theorem dX6_has_5 : decode cX6_has 5 = .ok (.iconst 4, 1) := by decide +kernel
theorem dX6_has_6 : decode cX6_has 6 = .ok (.if_icmp .ge 7, 3) := by decide +kernel
theorem dX6_has_9 : decode cX6_has 9 = .ok (.iconst 1, 1) := by decide +kernel
theorem dX6_has_10 : decode cX6_has 10 = .ok (.goto 4, 3) := by decide +kernel
theorem dX6_has_13 : decode cX6_has 13 = .ok (.iconst 0, 1) := by decide +kernel
theorem dX6_has_14 : decode cX6_has 14 = .ok (.ireturn, 1) := by decide +kernel
theorem dX6_isNothing_0 : decode cX6_isNothing 0 = .ok (.aload_n 0, 1) := by decide +kernel
theorem dX6_isNothing_1 : decode cX6_isNothing 1 = .ok (.getfield 20, 3) := by decide +kernel
theorem dX6_isNothing_4 : decode cX6_isNothing 4 = .ok (.iload_n 1, 1) := by decide +kernel
theorem dX6_isNothing_5 : decode cX6_isNothing 5 = .ok (.iaload, 1) := by decide +kernel
theorem dX6_isNothing_6 : decode cX6_isNothing 6 = .ok (.iconst (-1), 1) := by decide +kernel
theorem dX6_isNothing_7 : decode cX6_isNothing 7 = .ok (.if_icmp .ne 7, 3) := by decide +kernel
theorem dX6_isNothing_10 : decode cX6_isNothing 10 = .ok (.iconst 1, 1) := by decide +kernel
theorem dX6_isNothing_11 : decode cX6_isNothing 11 = .ok (.goto 4, 3) := by decide +kernel
theorem dX6_isNothing_14 : decode cX6_isNothing 14 = .ok (.iconst 0, 1) := by decide +kernel
theorem dX6_isNothing_15 : decode cX6_isNothing 15 = .ok (.ireturn, 1) := by decide +kernel
theorem dX6_hasCell_0 : decode cX6_hasCell 0 = .ok (.iload_n 2, 1) := by decide +kernel
theorem dX6_hasCell_1 : decode cX6_hasCell 1 = .ok (.ifCond .lt 17, 3) := by decide +kernel
theorem dX6_hasCell_4 : decode cX6_hasCell 4 = .ok (.iload_n 2, 1) := by decide +kernel
theorem dX6_hasCell_5 : decode cX6_hasCell 5 = .ok (.aload_n 0, 1) := by decide +kernel
theorem dX6_hasCell_6 : decode cX6_hasCell 6 = .ok (.getfield 20, 3) := by decide +kernel
theorem dX6_hasCell_9 : decode cX6_hasCell 9 = .ok (.iload_n 1, 1) := by decide +kernel
theorem dX6_hasCell_10 : decode cX6_hasCell 10 = .ok (.iaload, 1) := by decide +kernel
theorem dX6_hasCell_11 : decode cX6_hasCell 11 = .ok (.if_icmp .ge 7, 3) := by decide +kernel
theorem dX6_hasCell_14 : decode cX6_hasCell 14 = .ok (.iconst 1, 1) := by decide +kernel
theorem dX6_hasCell_15 : decode cX6_hasCell 15 = .ok (.goto 4, 3) := by decide +kernel
theorem dX6_hasCell_18 : decode cX6_hasCell 18 = .ok (.iconst 0, 1) := by decide +kernel
theorem dX6_hasCell_19 : decode cX6_hasCell 19 = .ok (.ireturn, 1) := by decide +kernel
theorem dX6_renew_0 : decode cX6_renew 0 = .ok (.aload_n 0, 1) := by decide +kernel
theorem dX6_renew_1 : decode cX6_renew 1 = .ok (.getfield 11, 3) := by decide +kernel
theorem dX6_renew_4 : decode cX6_renew 4 = .ok (.iload_n 1, 1) := by decide +kernel
theorem dX6_renew_5 : decode cX6_renew 5 = .ok (.aaload, 1) := by decide +kernel
theorem dX6_renew_6 : decode cX6_renew 6 = .ok (.lconst 0, 1) := by decide +kernel
theorem dX6_renew_7 : decode cX6_renew 7 = .ok (.invokestatic 29, 3) := by decide +kernel
theorem dX6_renew_10 : decode cX6_renew 10 = .ok (.aload_n 0, 1) := by decide +kernel
theorem dX6_renew_11 : decode cX6_renew 11 = .ok (.getfield 16, 3) := by decide +kernel
theorem dX6_renew_14 : decode cX6_renew 14 = .ok (.iload_n 1, 1) := by decide +kernel
theorem dX6_renew_15 : decode cX6_renew 15 = .ok (.iload_n 2, 1) := by decide +kernel
theorem dX6_renew_16 : decode cX6_renew 16 = .ok (.iastore, 1) := by decide +kernel
theorem dX6_renew_17 : decode cX6_renew 17 = .ok (.aload_n 0, 1) := by decide +kernel
theorem dX6_renew_18 : decode cX6_renew 18 = .ok (.getfield 20, 3) := by decide +kernel
theorem dX6_renew_21 : decode cX6_renew 21 = .ok (.iload_n 1, 1) := by decide +kernel
theorem dX6_renew_22 : decode cX6_renew 22 = .ok (.iload_n 3, 1) := by decide +kernel
theorem dX6_renew_23 : decode cX6_renew 23 = .ok (.iastore, 1) := by decide +kernel
theorem dX6_renew_24 : decode cX6_renew 24 = .ok (.return_, 1) := by decide +kernel
theorem dX6_refusal_0 : decode cX6_refusal 0 = .ok (.iconst 0, 1) := by decide +kernel
theorem dX6_refusal_1 : decode cX6_refusal 1 = .ok (.istore 4, 2) := by decide +kernel
theorem dX6_refusal_3 : decode cX6_refusal 3 = .ok (.iload 4, 2) := by decide +kernel
theorem dX6_refusal_5 : decode cX6_refusal 5 = .ok (.iload_n 3, 1) := by decide +kernel
theorem dX6_refusal_6 : decode cX6_refusal 6 = .ok (.if_icmp .ge 59, 3) := by decide +kernel
theorem dX6_refusal_9 : decode cX6_refusal 9 = .ok (.aload_n 0, 1) := by decide +kernel
theorem dX6_refusal_10 : decode cX6_refusal 10 = .ok (.iload_n 1, 1) := by decide +kernel
theorem dX6_refusal_11 : decode cX6_refusal 11 = .ok (.iload_n 2, 1) := by decide +kernel
theorem dX6_refusal_12 : decode cX6_refusal 12 = .ok (.iload 4, 2) := by decide +kernel
theorem dX6_refusal_14 : decode cX6_refusal 14 = .ok (.iadd, 1) := by decide +kernel
theorem dX6_refusal_15 : decode cX6_refusal 15 = .ok (.invokevirtual 32, 3) := by decide +kernel
theorem dX6_refusal_18 : decode cX6_refusal 18 = .ok (.ifCond .ne 6, 3) := by decide +kernel
theorem dX6_refusal_21 : decode cX6_refusal 21 = .ok (.bipush (-12), 2) := by decide +kernel
theorem dX6_refusal_23 : decode cX6_refusal 23 = .ok (.ireturn, 1) := by decide +kernel
theorem dX6_refusal_24 : decode cX6_refusal 24 = .ok (.aload_n 0, 1) := by decide +kernel
theorem dX6_refusal_25 : decode cX6_refusal 25 = .ok (.getfield 11, 3) := by decide +kernel
theorem dX6_refusal_28 : decode cX6_refusal 28 = .ok (.iload_n 1, 1) := by decide +kernel
theorem dX6_refusal_29 : decode cX6_refusal 29 = .ok (.aaload, 1) := by decide +kernel
theorem dX6_refusal_30 : decode cX6_refusal 30 = .ok (.iload_n 2, 1) := by decide +kernel
theorem dX6_refusal_31 : decode cX6_refusal 31 = .ok (.iload 4, 2) := by decide +kernel
theorem dX6_refusal_33 : decode cX6_refusal 33 = .ok (.iadd, 1) := by decide +kernel
theorem dX6_refusal_34 : decode cX6_refusal 34 = .ok (.laload, 1) := by decide +kernel
theorem dX6_refusal_35 : decode cX6_refusal 35 = .ok (.lstore 5, 2) := by decide +kernel
theorem dX6_refusal_37 : decode cX6_refusal 37 = .ok (.lload 5, 2) := by decide +kernel
theorem dX6_refusal_39 : decode cX6_refusal 39 = .ok (.lconst 0, 1) := by decide +kernel
theorem dX6_refusal_40 : decode cX6_refusal 40 = .ok (.lcmp, 1) := by decide +kernel
theorem dX6_refusal_41 : decode cX6_refusal 41 = .ok (.ifCond .lt 12, 3) := by decide +kernel
theorem dX6_refusal_44 : decode cX6_refusal 44 = .ok (.lload 5, 2) := by decide +kernel
theorem dX6_refusal_46 : decode cX6_refusal 46 = .ok (.ldc2_w 36, 3) := by decide +kernel
theorem dX6_refusal_49 : decode cX6_refusal 49 = .ok (.lcmp, 1) := by decide +kernel
theorem dX6_refusal_50 : decode cX6_refusal 50 = .ok (.ifCond .le 9, 3) := by decide +kernel
theorem dX6_refusal_53 : decode cX6_refusal 53 = .ok (.bipush (-20), 2) := by decide +kernel
theorem dX6_refusal_55 : decode cX6_refusal 55 = .ok (.iload 4, 2) := by decide +kernel
theorem dX6_refusal_57 : decode cX6_refusal 57 = .ok (.isub, 1) := by decide +kernel
theorem dX6_refusal_58 : decode cX6_refusal 58 = .ok (.ireturn, 1) := by decide +kernel
theorem dX6_refusal_59 : decode cX6_refusal 59 = .ok (.iinc 4 1, 3) := by decide +kernel
theorem dX6_refusal_62 : decode cX6_refusal 62 = .ok (.goto (-59), 3) := by decide +kernel
theorem dX6_refusal_65 : decode cX6_refusal 65 = .ok (.iconst 0, 1) := by decide +kernel
theorem dX6_refusal_66 : decode cX6_refusal 66 = .ok (.ireturn, 1) := by decide +kernel
