theorem dX7_init_0 : decode cX7_init 0 = .ok (.aload_n 0, 1) := by decide +kernel
theorem dX7_init_1 : decode cX7_init 1 = .ok (.invokespecial 1, 3) := by decide +kernel
theorem dX7_init_4 : decode cX7_init 4 = .ok (.aload_n 0, 1) := by decide +kernel
theorem dX7_init_5 : decode cX7_init 5 = .ok (.new 7, 3) := by decide +kernel
theorem dX7_init_8 : decode cX7_init 8 = .ok (.dup, 1) := by decide +kernel
theorem dX7_init_9 : decode cX7_init 9 = .ok (.invokespecial 9, 3) := by decide +kernel
theorem dX7_init_12 : decode cX7_init 12 = .ok (.putfield 10, 3) := by decide +kernel
theorem dX7_init_15 : decode cX7_init 15 = .ok (.aload_n 0, 1) := by decide +kernel
theorem dX7_init_16 : decode cX7_init 16 = .ok (.new 16, 3) := by decide +kernel
theorem dX7_init_19 : decode cX7_init 19 = .ok (.dup, 1) := by decide +kernel
theorem dX7_init_20 : decode cX7_init 20 = .ok (.invokespecial 18, 3) := by decide +kernel
theorem dX7_init_23 : decode cX7_init 23 = .ok (.putfield 19, 3) := by decide +kernel
theorem dX7_init_26 : decode cX7_init 26 = .ok (.aload_n 0, 1) := by decide +kernel
theorem dX7_init_27 : decode cX7_init 27 = .ok (.new 23, 3) := by decide +kernel
theorem dX7_init_30 : decode cX7_init 30 = .ok (.dup, 1) := by decide +kernel
theorem dX7_init_31 : decode cX7_init 31 = .ok (.invokespecial 25, 3) := by decide +kernel
theorem dX7_init_34 : decode cX7_init 34 = .ok (.putfield 26, 3) := by decide +kernel
theorem dX7_init_37 : decode cX7_init 37 = .ok (.aload_n 0, 1) := by decide +kernel
theorem dX7_init_38 : decode cX7_init 38 = .ok (.new 30, 3) := by decide +kernel
theorem dX7_init_41 : decode cX7_init 41 = .ok (.dup, 1) := by decide +kernel
theorem dX7_init_42 : decode cX7_init 42 = .ok (.invokespecial 32, 3) := by decide +kernel
theorem dX7_init_45 : decode cX7_init 45 = .ok (.putfield 33, 3) := by decide +kernel
theorem dX7_init_48 : decode cX7_init 48 = .ok (.aload_n 0, 1) := by decide +kernel
theorem dX7_init_49 : decode cX7_init 49 = .ok (.new 37, 3) := by decide +kernel
theorem dX7_init_52 : decode cX7_init 52 = .ok (.dup, 1) := by decide +kernel
theorem dX7_init_53 : decode cX7_init 53 = .ok (.invokespecial 39, 3) := by decide +kernel
theorem dX7_init_56 : decode cX7_init 56 = .ok (.putfield 40, 3) := by decide +kernel
theorem dX7_init_59 : decode cX7_init 59 = .ok (.aload_n 0, 1) := by decide +kernel
theorem dX7_init_60 : decode cX7_init 60 = .ok (.new 44, 3) := by decide +kernel
theorem dX7_init_63 : decode cX7_init 63 = .ok (.dup, 1) := by decide +kernel
theorem dX7_init_64 : decode cX7_init 64 = .ok (.invokespecial 46, 3) := by decide +kernel
theorem dX7_init_67 : decode cX7_init 67 = .ok (.putfield 47, 3) := by decide +kernel
theorem dX7_init_70 : decode cX7_init 70 = .ok (.aload_n 0, 1) := by decide +kernel
theorem dX7_init_71 : decode cX7_init 71 = .ok (.new 51, 3) := by decide +kernel
theorem dX7_init_74 : decode cX7_init 74 = .ok (.dup, 1) := by decide +kernel
theorem dX7_init_75 : decode cX7_init 75 = .ok (.invokespecial 53, 3) := by decide +kernel
theorem dX7_init_78 : decode cX7_init 78 = .ok (.putfield 54, 3) := by decide +kernel
theorem dX7_init_81 : decode cX7_init 81 = .ok (.return_, 1) := by decide +kernel
theorem dX7_rack_0 : decode cX7_rack 0 = .ok (.iload_n 1, 1) := by decide +kernel
theorem dX7_rack_1 : decode cX7_rack 1 = .ok (.iconst 0, 1) := by decide +kernel
theorem dX7_rack_2 : decode cX7_rack 2 = .ok (.sipush 1000, 3) := by decide +kernel
theorem dX7_rack_5 : decode cX7_rack 5 = .ok (.invokestatic 58, 3) := by decide +kernel
theorem dX7_rack_8 : decode cX7_rack 8 = .ok (.ifCond .eq 41, 3) := by decide +kernel
theorem dX7_rack_11 : decode cX7_rack 11 = .ok (.iload_n 2, 1) := by decide +kernel
theorem dX7_rack_12 : decode cX7_rack 12 = .ok (.sipush 10000, 3) := by decide +kernel
theorem dX7_rack_15 : decode cX7_rack 15 = .ok (.ldc 62, 2) := by decide +kernel
theorem dX7_rack_17 : decode cX7_rack 17 = .ok (.invokestatic 58, 3) := by decide +kernel
theorem dX7_rack_20 : decode cX7_rack 20 = .ok (.ifCond .eq 29, 3) := by decide +kernel
theorem dX7_rack_23 : decode cX7_rack 23 = .ok (.iload_n 3, 1) := by decide +kernel
theorem dX7_rack_24 : decode cX7_rack 24 = .ok (.iconst 1, 1) := by decide +kernel
theorem dX7_rack_25 : decode cX7_rack 25 = .ok (.sipush 1000, 3) := by decide +kernel
theorem dX7_rack_28 : decode cX7_rack 28 = .ok (.invokestatic 58, 3) := by decide +kernel
theorem dX7_rack_31 : decode cX7_rack 31 = .ok (.ifCond .eq 18, 3) := by decide +kernel
theorem dX7_rack_34 : decode cX7_rack 34 = .ok (.iload 4, 2) := by decide +kernel
theorem dX7_rack_36 : decode cX7_rack 36 = .ok (.iconst 0, 1) := by decide +kernel
theorem dX7_rack_37 : decode cX7_rack 37 = .ok (.bipush 20, 2) := by decide +kernel
theorem dX7_rack_39 : decode cX7_rack 39 = .ok (.invokestatic 58, 3) := by decide +kernel
theorem dX7_rack_42 : decode cX7_rack 42 = .ok (.ifCond .eq 7, 3) := by decide +kernel
theorem dX7_rack_45 : decode cX7_rack 45 = .ok (.iconst 1, 1) := by decide +kernel
theorem dX7_rack_46 : decode cX7_rack 46 = .ok (.goto 4, 3) := by decide +kernel
theorem dX7_rack_49 : decode cX7_rack 49 = .ok (.iconst 0, 1) := by decide +kernel
theorem dX7_rack_50 : decode cX7_rack 50 = .ok (.istore 5, 2) := by decide +kernel
theorem dX7_rack_52 : decode cX7_rack 52 = .ok (.iload 5, 2) := by decide +kernel
theorem dX7_rack_54 : decode cX7_rack 54 = .ok (.ifCond .eq 18, 3) := by decide +kernel
theorem dX7_rack_57 : decode cX7_rack 57 = .ok (.aload_n 0, 1) := by decide +kernel
theorem dX7_rack_58 : decode cX7_rack 58 = .ok (.getfield 10, 3) := by decide +kernel
theorem dX7_rack_61 : decode cX7_rack 61 = .ok (.iload_n 1, 1) := by decide +kernel
theorem dX7_rack_62 : decode cX7_rack 62 = .ok (.iload_n 2, 1) := by decide +kernel
theorem dX7_rack_63 : decode cX7_rack 63 = .ok (.iload_n 3, 1) := by decide +kernel
theorem dX7_rack_64 : decode cX7_rack 64 = .ok (.iload 4, 2) := by decide +kernel
theorem dX7_rack_66 : decode cX7_rack 66 = .ok (.invokevirtual 63, 3) := by decide +kernel
theorem dX7_rack_69 : decode cX7_rack 69 = .ok (.goto 4, 3) := by decide +kernel
theorem dX7_rack_72 : decode cX7_rack 72 = .ok (.iconst (-1), 1) := by decide +kernel
theorem dX7_rack_73 : decode cX7_rack 73 = .ok (.ireturn, 1) := by decide +kernel
theorem dX7_load_0 : decode cX7_load 0 = .ok (.aload_n 0, 1) := by decide +kernel
theorem dX7_load_1 : decode cX7_load 1 = .ok (.getfield 10, 3) := by decide +kernel
theorem dX7_load_4 : decode cX7_load 4 = .ok (.iload_n 1, 1) := by decide +kernel
theorem dX7_load_5 : decode cX7_load 5 = .ok (.invokevirtual 67, 3) := by decide +kernel
theorem dX7_load_8 : decode cX7_load 8 = .ok (.ifCond .eq 14, 3) := by decide +kernel
theorem dX7_load_11 : decode cX7_load 11 = .ok (.iload_n 2, 1) := by decide +kernel
theorem dX7_load_12 : decode cX7_load 12 = .ok (.iconst 0, 1) := by decide +kernel
theorem dX7_load_13 : decode cX7_load 13 = .ok (.sipush 1000, 3) := by decide +kernel
theorem dX7_load_16 : decode cX7_load 16 = .ok (.invokestatic 58, 3) := by decide +kernel
theorem dX7_load_19 : decode cX7_load 19 = .ok (.ifCond .ne 5, 3) := by decide +kernel
theorem dX7_load_22 : decode cX7_load 22 = .ok (.iconst (-1), 1) := by decide +kernel
theorem dX7_load_23 : decode cX7_load 23 = .ok (.ireturn, 1) := by decide +kernel
theorem dX7_load_24 : decode cX7_load 24 = .ok (.aload_n 0, 1) := by decide +kernel
theorem dX7_load_25 : decode cX7_load 25 = .ok (.getfield 10, 3) := by decide +kernel
theorem dX7_load_28 : decode cX7_load 28 = .ok (.getfield 71, 3) := by decide +kernel
theorem dX7_load_31 : decode cX7_load 31 = .ok (.iload_n 1, 1) := by decide +kernel
theorem dX7_load_32 : decode cX7_load 32 = .ok (.iaload, 1) := by decide +kernel
theorem dX7_load_33 : decode cX7_load 33 = .ok (.istore_n 3, 1) := by decide +kernel
theorem dX7_load_34 : decode cX7_load 34 = .ok (.aload_n 0, 1) := by decide +kernel
theorem dX7_load_35 : decode cX7_load 35 = .ok (.getfield 10, 3) := by decide +kernel
theorem dX7_load_38 : decode cX7_load 38 = .ok (.getfield 71, 3) := by decide +kernel
theorem dX7_load_41 : decode cX7_load 41 = .ok (.iload_n 1, 1) := by decide +kernel
theorem dX7_load_42 : decode cX7_load 42 = .ok (.iload_n 2, 1) := by decide +kernel
theorem dX7_load_43 : decode cX7_load 43 = .ok (.iastore, 1) := by decide +kernel
theorem dX7_load_44 : decode cX7_load 44 = .ok (.iload_n 3, 1) := by decide +kernel
theorem dX7_load_45 : decode cX7_load 45 = .ok (.ireturn, 1) := by decide +kernel
theorem dX7_share_0 : decode cX7_share 0 = .ok (.aload_n 0, 1) := by decide +kernel
theorem dX7_share_1 : decode cX7_share 1 = .ok (.getfield 10, 3) := by decide +kernel
theorem dX7_share_4 : decode cX7_share 4 = .ok (.iload_n 1, 1) := by decide +kernel
theorem dX7_share_5 : decode cX7_share 5 = .ok (.invokevirtual 67, 3) := by decide +kernel
theorem dX7_share_8 : decode cX7_share 8 = .ok (.ifCond .eq 25, 3) := by decide +kernel
theorem dX7_share_11 : decode cX7_share 11 = .ok (.aload_n 0, 1) := by decide +kernel
theorem dX7_share_12 : decode cX7_share 12 = .ok (.getfield 10, 3) := by decide +kernel
theorem dX7_share_15 : decode cX7_share 15 = .ok (.iload_n 2, 1) := by decide +kernel
theorem dX7_share_16 : decode cX7_share 16 = .ok (.invokevirtual 67, 3) := by decide +kernel
theorem dX7_share_19 : decode cX7_share 19 = .ok (.ifCond .eq 14, 3) := by decide +kernel
theorem dX7_share_22 : decode cX7_share 22 = .ok (.iload_n 3, 1) := by decide +kernel
theorem dX7_share_23 : decode cX7_share 23 = .ok (.iconst 0, 1) := by decide +kernel
theorem dX7_share_24 : decode cX7_share 24 = .ok (.sipush 200, 3) := by decide +kernel
theorem dX7_share_27 : decode cX7_share 27 = .ok (.invokestatic 58, 3) := by decide +kernel
theorem dX7_share_30 : decode cX7_share 30 = .ok (.ifCond .ne 5, 3) := by decide +kernel
theorem dX7_share_33 : decode cX7_share 33 = .ok (.iconst (-1), 1) := by decide +kernel
theorem dX7_share_34 : decode cX7_share 34 = .ok (.ireturn, 1) := by decide +kernel
theorem dX7_share_35 : decode cX7_share 35 = .ok (.aload_n 0, 1) := by decide +kernel
theorem dX7_share_36 : decode cX7_share 36 = .ok (.getfield 10, 3) := by decide +kernel
theorem dX7_share_39 : decode cX7_share 39 = .ok (.getfield 75, 3) := by decide +kernel
theorem dX7_share_42 : decode cX7_share 42 = .ok (.iload_n 1, 1) := by decide +kernel
theorem dX7_share_43 : decode cX7_share 43 = .ok (.aaload, 1) := by decide +kernel
theorem dX7_share_44 : decode cX7_share 44 = .ok (.iload_n 2, 1) := by decide +kernel
theorem dX7_share_45 : decode cX7_share 45 = .ok (.iaload, 1) := by decide +kernel
theorem dX7_share_46 : decode cX7_share 46 = .ok (.istore 4, 2) := by decide +kernel
theorem dX7_share_48 : decode cX7_share 48 = .ok (.aload_n 0, 1) := by decide +kernel
theorem dX7_share_49 : decode cX7_share 49 = .ok (.getfield 10, 3) := by decide +kernel
theorem dX7_share_52 : decode cX7_share 52 = .ok (.getfield 75, 3) := by decide +kernel
theorem dX7_share_55 : decode cX7_share 55 = .ok (.iload_n 1, 1) := by decide +kernel
theorem dX7_share_56 : decode cX7_share 56 = .ok (.aaload, 1) := by decide +kernel
theorem dX7_share_57 : decode cX7_share 57 = .ok (.iload_n 2, 1) := by decide +kernel
theorem dX7_share_58 : decode cX7_share 58 = .ok (.iload_n 3, 1) := by decide +kernel
theorem dX7_share_59 : decode cX7_share 59 = .ok (.iastore, 1) := by decide +kernel
theorem dX7_share_60 : decode cX7_share 60 = .ok (.iload 4, 2) := by decide +kernel
theorem dX7_share_62 : decode cX7_share 62 = .ok (.ireturn, 1) := by decide +kernel
theorem dX7_sheet_0 : decode cX7_sheet 0 = .ok (.aload_n 0, 1) := by decide +kernel
theorem dX7_sheet_1 : decode cX7_sheet 1 = .ok (.getfield 33, 3) := by decide +kernel
theorem dX7_sheet_4 : decode cX7_sheet 4 = .ok (.iload_n 1, 1) := by decide +kernel
theorem dX7_sheet_5 : decode cX7_sheet 5 = .ok (.invokevirtual 79, 3) := by decide +kernel
theorem dX7_sheet_8 : decode cX7_sheet 8 = .ok (.ifCond .eq 16, 3) := by decide +kernel
theorem dX7_sheet_11 : decode cX7_sheet 11 = .ok (.iload_n 2, 1) := by decide +kernel
theorem dX7_sheet_12 : decode cX7_sheet 12 = .ok (.invokestatic 80, 3) := by decide +kernel
theorem dX7_sheet_15 : decode cX7_sheet 15 = .ok (.ifCond .eq 9, 3) := by decide +kernel
theorem dX7_sheet_18 : decode cX7_sheet 18 = .ok (.iload_n 3, 1) := by decide +kernel
theorem dX7_sheet_19 : decode cX7_sheet 19 = .ok (.bipush 64, 2) := by decide +kernel
theorem dX7_sheet_21 : decode cX7_sheet 21 = .ok (.if_icmp .le 5, 3) := by decide +kernel
theorem dX7_sheet_24 : decode cX7_sheet 24 = .ok (.iconst (-1), 1) := by decide +kernel
theorem dX7_sheet_25 : decode cX7_sheet 25 = .ok (.ireturn, 1) := by decide +kernel
theorem dX7_sheet_26 : decode cX7_sheet 26 = .ok (.iload_n 3, 1) := by decide +kernel
theorem dX7_sheet_27 : decode cX7_sheet 27 = .ok (.ifCond .ge 6, 3) := by decide +kernel
theorem dX7_sheet_30 : decode cX7_sheet 30 = .ok (.bipush (-14), 2) := by decide +kernel
theorem dX7_sheet_32 : decode cX7_sheet 32 = .ok (.ireturn, 1) := by decide +kernel
theorem dX7_sheet_33 : decode cX7_sheet 33 = .ok (.aload_n 0, 1) := by decide +kernel
theorem dX7_sheet_34 : decode cX7_sheet 34 = .ok (.getfield 33, 3) := by decide +kernel
theorem dX7_sheet_37 : decode cX7_sheet 37 = .ok (.iload_n 1, 1) := by decide +kernel
theorem dX7_sheet_38 : decode cX7_sheet 38 = .ok (.iload_n 2, 1) := by decide +kernel
theorem dX7_sheet_39 : decode cX7_sheet 39 = .ok (.iload_n 3, 1) := by decide +kernel
theorem dX7_sheet_40 : decode cX7_sheet 40 = .ok (.invokevirtual 83, 3) := by decide +kernel
theorem dX7_sheet_43 : decode cX7_sheet 43 = .ok (.iconst 1, 1) := by decide +kernel
theorem dX7_sheet_44 : decode cX7_sheet 44 = .ok (.ireturn, 1) := by decide +kernel
theorem dX7_lay_0 : decode cX7_lay 0 = .ok (.aload_n 0, 1) := by decide +kernel
theorem dX7_lay_1 : decode cX7_lay 1 = .ok (.getfield 33, 3) := by decide +kernel
theorem dX7_lay_4 : decode cX7_lay 4 = .ok (.iload_n 1, 1) := by decide +kernel
theorem dX7_lay_5 : decode cX7_lay 5 = .ok (.invokevirtual 79, 3) := by decide +kernel
theorem dX7_lay_8 : decode cX7_lay 8 = .ok (.ifCond .ne 5, 3) := by decide +kernel
theorem dX7_lay_11 : decode cX7_lay 11 = .ok (.iconst (-1), 1) := by decide +kernel
theorem dX7_lay_12 : decode cX7_lay 12 = .ok (.ireturn, 1) := by decide +kernel
theorem dX7_lay_13 : decode cX7_lay 13 = .ok (.aload_n 0, 1) := by decide +kernel
theorem dX7_lay_14 : decode cX7_lay 14 = .ok (.getfield 33, 3) := by decide +kernel
theorem dX7_lay_17 : decode cX7_lay 17 = .ok (.iload_n 1, 1) := by decide +kernel
theorem dX7_lay_18 : decode cX7_lay 18 = .ok (.invokevirtual 87, 3) := by decide +kernel
theorem dX7_lay_21 : decode cX7_lay 21 = .ok (.ifCond .eq 6, 3) := by decide +kernel
theorem dX7_lay_24 : decode cX7_lay 24 = .ok (.bipush (-11), 2) := by decide +kernel
theorem dX7_lay_26 : decode cX7_lay 26 = .ok (.ireturn, 1) := by decide +kernel
theorem dX7_lay_27 : decode cX7_lay 27 = .ok (.aload_n 0, 1) := by decide +kernel
theorem dX7_lay_28 : decode cX7_lay 28 = .ok (.getfield 33, 3) := by decide +kernel
theorem dX7_lay_31 : decode cX7_lay 31 = .ok (.iload_n 1, 1) := by decide +kernel
theorem dX7_lay_32 : decode cX7_lay 32 = .ok (.iload_n 2, 1) := by decide +kernel
theorem dX7_lay_33 : decode cX7_lay 33 = .ok (.invokevirtual 90, 3) := by decide +kernel
theorem dX7_lay_36 : decode cX7_lay 36 = .ok (.ifCond .ne 6, 3) := by decide +kernel
theorem dX7_lay_39 : decode cX7_lay 39 = .ok (.bipush (-12), 2) := by decide +kernel
theorem dX7_lay_41 : decode cX7_lay 41 = .ok (.ireturn, 1) := by decide +kernel
theorem dX7_lay_42 : decode cX7_lay 42 = .ok (.aload_n 0, 1) := by decide +kernel
theorem dX7_lay_43 : decode cX7_lay 43 = .ok (.getfield 33, 3) := by decide +kernel
theorem dX7_lay_46 : decode cX7_lay 46 = .ok (.getfield 94, 3) := by decide +kernel
theorem dX7_lay_49 : decode cX7_lay 49 = .ok (.iload_n 1, 1) := by decide +kernel
theorem dX7_lay_50 : decode cX7_lay 50 = .ok (.aaload, 1) := by decide +kernel
theorem dX7_lay_51 : decode cX7_lay 51 = .ok (.iload_n 2, 1) := by decide +kernel
theorem dX7_lay_52 : decode cX7_lay 52 = .ok (.aload_n 0, 1) := by decide +kernel
theorem dX7_lay_53 : decode cX7_lay 53 = .ok (.getfield 33, 3) := by decide +kernel
theorem dX7_lay_56 : decode cX7_lay 56 = .ok (.getfield 98, 3) := by decide +kernel
theorem dX7_lay_59 : decode cX7_lay 59 = .ok (.iload_n 1, 1) := by decide +kernel
theorem dX7_lay_60 : decode cX7_lay 60 = .ok (.iaload, 1) := by decide +kernel
theorem dX7_lay_61 : decode cX7_lay 61 = .ok (.lload_n 3, 1) := by decide +kernel
theorem dX7_lay_62 : decode cX7_lay 62 = .ok (.invokestatic 101, 3) := by decide +kernel
theorem dX7_lay_65 : decode cX7_lay 65 = .ok (.lastore, 1) := by decide +kernel
theorem dX7_lay_66 : decode cX7_lay 66 = .ok (.iconst 1, 1) := by decide +kernel
theorem dX7_lay_67 : decode cX7_lay 67 = .ok (.ireturn, 1) := by decide +kernel
theorem dX7_draw_0 : decode cX7_draw 0 = .ok (.aload_n 0, 1) := by decide +kernel
theorem dX7_draw_1 : decode cX7_draw 1 = .ok (.getfield 33, 3) := by decide +kernel
theorem dX7_draw_4 : decode cX7_draw 4 = .ok (.iload_n 1, 1) := by decide +kernel
theorem dX7_draw_5 : decode cX7_draw 5 = .ok (.invokevirtual 79, 3) := by decide +kernel
theorem dX7_draw_8 : decode cX7_draw 8 = .ok (.ifCond .eq 10, 3) := by decide +kernel
theorem dX7_draw_11 : decode cX7_draw 11 = .ok (.iload_n 2, 1) := by decide +kernel
theorem dX7_draw_12 : decode cX7_draw 12 = .ok (.invokestatic 80, 3) := by decide +kernel
theorem dX7_draw_15 : decode cX7_draw 15 = .ok (.ifCond .ne 5, 3) := by decide +kernel
theorem dX7_draw_18 : decode cX7_draw 18 = .ok (.iconst (-1), 1) := by decide +kernel
theorem dX7_draw_19 : decode cX7_draw 19 = .ok (.ireturn, 1) := by decide +kernel
theorem dX7_draw_20 : decode cX7_draw 20 = .ok (.aload_n 0, 1) := by decide +kernel
theorem dX7_draw_21 : decode cX7_draw 21 = .ok (.getfield 33, 3) := by decide +kernel
theorem dX7_draw_24 : decode cX7_draw 24 = .ok (.iload_n 1, 1) := by decide +kernel
theorem dX7_draw_25 : decode cX7_draw 25 = .ok (.invokevirtual 87, 3) := by decide +kernel
theorem dX7_draw_28 : decode cX7_draw 28 = .ok (.ifCond .eq 6, 3) := by decide +kernel
theorem dX7_draw_31 : decode cX7_draw 31 = .ok (.bipush (-11), 2) := by decide +kernel
theorem dX7_draw_33 : decode cX7_draw 33 = .ok (.ireturn, 1) := by decide +kernel
theorem dX7_draw_34 : decode cX7_draw 34 = .ok (.aload_n 0, 1) := by decide +kernel
theorem dX7_draw_35 : decode cX7_draw 35 = .ok (.getfield 33, 3) := by decide +kernel
theorem dX7_draw_38 : decode cX7_draw 38 = .ok (.getfield 98, 3) := by decide +kernel
theorem dX7_draw_41 : decode cX7_draw 41 = .ok (.iload_n 1, 1) := by decide +kernel
theorem dX7_draw_42 : decode cX7_draw 42 = .ok (.iaload, 1) := by decide +kernel
theorem dX7_draw_43 : decode cX7_draw 43 = .ok (.iload_n 2, 1) := by decide +kernel
theorem dX7_draw_44 : decode cX7_draw 44 = .ok (.if_icmp .eq 6, 3) := by decide +kernel
theorem dX7_draw_47 : decode cX7_draw 47 = .ok (.bipush (-13), 2) := by decide +kernel
theorem dX7_draw_49 : decode cX7_draw 49 = .ok (.ireturn, 1) := by decide +kernel
theorem dX7_draw_50 : decode cX7_draw 50 = .ok (.aload_n 0, 1) := by decide +kernel
theorem dX7_draw_51 : decode cX7_draw 51 = .ok (.getfield 33, 3) := by decide +kernel
theorem dX7_draw_54 : decode cX7_draw 54 = .ok (.iload_n 1, 1) := by decide +kernel
theorem dX7_draw_55 : decode cX7_draw 55 = .ok (.iload_n 3, 1) := by decide +kernel
theorem dX7_draw_56 : decode cX7_draw 56 = .ok (.aload_n 0, 1) := by decide +kernel
theorem dX7_draw_57 : decode cX7_draw 57 = .ok (.getfield 10, 3) := by decide +kernel
theorem dX7_draw_60 : decode cX7_draw 60 = .ok (.getfield 105, 3) := by decide +kernel
theorem dX7_draw_63 : decode cX7_draw 63 = .ok (.aload_n 0, 1) := by decide +kernel
theorem dX7_draw_64 : decode cX7_draw 64 = .ok (.getfield 10, 3) := by decide +kernel
theorem dX7_draw_67 : decode cX7_draw 67 = .ok (.getfield 105, 3) := by decide +kernel
theorem dX7_draw_70 : decode cX7_draw 70 = .ok (.imul, 1) := by decide +kernel
theorem dX7_draw_71 : decode cX7_draw 71 = .ok (.invokevirtual 109, 3) := by decide +kernel
theorem dX7_draw_74 : decode cX7_draw 74 = .ok (.istore 4, 2) := by decide +kernel
theorem dX7_draw_76 : decode cX7_draw 76 = .ok (.iload 4, 2) := by decide +kernel
theorem dX7_draw_78 : decode cX7_draw 78 = .ok (.ifCond .eq 6, 3) := by decide +kernel
theorem dX7_draw_81 : decode cX7_draw 81 = .ok (.iload 4, 2) := by decide +kernel
theorem dX7_draw_83 : decode cX7_draw 83 = .ok (.ireturn, 1) := by decide +kernel
theorem dX7_draw_84 : decode cX7_draw 84 = .ok (.aload_n 0, 1) := by decide +kernel
theorem dX7_draw_85 : decode cX7_draw 85 = .ok (.getfield 10, 3) := by decide +kernel
theorem dX7_draw_88 : decode cX7_draw 88 = .ok (.aload_n 0, 1) := by decide +kernel
theorem dX7_draw_89 : decode cX7_draw 89 = .ok (.getfield 33, 3) := by decide +kernel
theorem dX7_draw_92 : decode cX7_draw 92 = .ok (.getfield 94, 3) := by decide +kernel
theorem dX7_draw_95 : decode cX7_draw 95 = .ok (.iload_n 1, 1) := by decide +kernel
theorem dX7_draw_96 : decode cX7_draw 96 = .ok (.aaload, 1) := by decide +kernel
theorem dX7_draw_97 : decode cX7_draw 97 = .ok (.iload_n 3, 1) := by decide +kernel
theorem dX7_draw_98 : decode cX7_draw 98 = .ok (.invokevirtual 113, 3) := by decide +kernel
theorem dX7_draw_101 : decode cX7_draw 101 = .ok (.aload_n 0, 1) := by decide +kernel
theorem dX7_draw_102 : decode cX7_draw 102 = .ok (.getfield 10, 3) := by decide +kernel
theorem dX7_draw_105 : decode cX7_draw 105 = .ok (.getfield 105, 3) := by decide +kernel
theorem dX7_draw_108 : decode cX7_draw 108 = .ok (.ireturn, 1) := by decide +kernel
theorem dX7_set_0 : decode cX7_set 0 = .ok (.iload_n 1, 1) := by decide +kernel
theorem dX7_set_1 : decode cX7_set 1 = .ok (.invokestatic 117, 3) := by decide +kernel
theorem dX7_set_4 : decode cX7_set 4 = .ok (.ifCond .eq 10, 3) := by decide +kernel
theorem dX7_set_7 : decode cX7_set 7 = .ok (.iload_n 2, 1) := by decide +kernel
theorem dX7_set_8 : decode cX7_set 8 = .ok (.invokestatic 120, 3) := by decide +kernel
theorem dX7_set_11 : decode cX7_set 11 = .ok (.ifCond .ne 5, 3) := by decide +kernel
theorem dX7_set_14 : decode cX7_set 14 = .ok (.iconst (-1), 1) := by decide +kernel
theorem dX7_set_15 : decode cX7_set 15 = .ok (.ireturn, 1) := by decide +kernel
theorem dX7_set_16 : decode cX7_set 16 = .ok (.aload_n 0, 1) := by decide +kernel
theorem dX7_set_17 : decode cX7_set 17 = .ok (.getfield 10, 3) := by decide +kernel
theorem dX7_set_20 : decode cX7_set 20 = .ok (.iload_n 1, 1) := by decide +kernel
theorem dX7_set_21 : decode cX7_set 21 = .ok (.putfield 123, 3) := by decide +kernel
theorem dX7_set_24 : decode cX7_set 24 = .ok (.aload_n 0, 1) := by decide +kernel
theorem dX7_set_25 : decode cX7_set 25 = .ok (.getfield 10, 3) := by decide +kernel
theorem dX7_set_28 : decode cX7_set 28 = .ok (.iload_n 2, 1) := by decide +kernel
theorem dX7_set_29 : decode cX7_set 29 = .ok (.putfield 126, 3) := by decide +kernel
theorem dX7_set_32 : decode cX7_set 32 = .ok (.iconst 1, 1) := by decide +kernel
theorem dX7_set_33 : decode cX7_set 33 = .ok (.ireturn, 1) := by decide +kernel
theorem dX7_price_0 : decode cX7_price 0 = .ok (.iload_n 1, 1) := by decide +kernel
theorem dX7_price_1 : decode cX7_price 1 = .ok (.ifCond .ne 26, 3) := by decide +kernel
theorem dX7_price_4 : decode cX7_price 4 = .ok (.iload_n 2, 1) := by decide +kernel
theorem dX7_price_5 : decode cX7_price 5 = .ok (.iconst 0, 1) := by decide +kernel
theorem dX7_price_6 : decode cX7_price 6 = .ok (.bipush 100, 2) := by decide +kernel
theorem dX7_price_8 : decode cX7_price 8 = .ok (.invokestatic 58, 3) := by decide +kernel
theorem dX7_price_11 : decode cX7_price 11 = .ok (.ifCond .eq 14, 3) := by decide +kernel
theorem dX7_price_14 : decode cX7_price 14 = .ok (.aload_n 0, 1) := by decide +kernel
theorem dX7_price_15 : decode cX7_price 15 = .ok (.getfield 19, 3) := by decide +kernel
theorem dX7_price_18 : decode cX7_price 18 = .ok (.iload_n 2, 1) := by decide +kernel
theorem dX7_price_19 : decode cX7_price 19 = .ok (.invokevirtual 129, 3) := by decide +kernel
theorem dX7_price_22 : decode cX7_price 22 = .ok (.goto 4, 3) := by decide +kernel
theorem dX7_price_25 : decode cX7_price 25 = .ok (.iconst (-1), 1) := by decide +kernel
theorem dX7_price_26 : decode cX7_price 26 = .ok (.ireturn, 1) := by decide +kernel
theorem dX7_price_27 : decode cX7_price 27 = .ok (.iload_n 1, 1) := by decide +kernel
theorem dX7_price_28 : decode cX7_price 28 = .ok (.invokestatic 117, 3) := by decide +kernel
theorem dX7_price_31 : decode cX7_price 31 = .ok (.ifCond .eq 26, 3) := by decide +kernel
theorem dX7_price_34 : decode cX7_price 34 = .ok (.iload_n 2, 1) := by decide +kernel
theorem dX7_price_35 : decode cX7_price 35 = .ok (.iconst 0, 1) := by decide +kernel
theorem dX7_price_36 : decode cX7_price 36 = .ok (.sipush 1000, 3) := by decide +kernel
theorem dX7_price_39 : decode cX7_price 39 = .ok (.invokestatic 58, 3) := by decide +kernel
theorem dX7_price_42 : decode cX7_price 42 = .ok (.ifCond .eq 15, 3) := by decide +kernel
theorem dX7_price_45 : decode cX7_price 45 = .ok (.aload_n 0, 1) := by decide +kernel
theorem dX7_price_46 : decode cX7_price 46 = .ok (.getfield 19, 3) := by decide +kernel
theorem dX7_price_49 : decode cX7_price 49 = .ok (.iload_n 1, 1) := by decide +kernel
theorem dX7_price_50 : decode cX7_price 50 = .ok (.iload_n 2, 1) := by decide +kernel
theorem dX7_price_51 : decode cX7_price 51 = .ok (.invokevirtual 133, 3) := by decide +kernel
theorem dX7_price_54 : decode cX7_price 54 = .ok (.goto 4, 3) := by decide +kernel
theorem dX7_price_57 : decode cX7_price 57 = .ok (.iconst (-1), 1) := by decide +kernel
theorem dX7_price_58 : decode cX7_price 58 = .ok (.ireturn, 1) := by decide +kernel
theorem dX7_into_0 : decode cX7_into 0 = .ok (.aload_n 0, 1) := by decide +kernel
theorem dX7_into_1 : decode cX7_into 1 = .ok (.getfield 10, 3) := by decide +kernel
theorem dX7_into_4 : decode cX7_into 4 = .ok (.iload_n 1, 1) := by decide +kernel
theorem dX7_into_5 : decode cX7_into 5 = .ok (.invokevirtual 67, 3) := by decide +kernel
theorem dX7_into_8 : decode cX7_into 8 = .ok (.ifCond .eq 28, 3) := by decide +kernel
theorem dX7_into_11 : decode cX7_into 11 = .ok (.aload_n 0, 1) := by decide +kernel
theorem dX7_into_12 : decode cX7_into 12 = .ok (.getfield 10, 3) := by decide +kernel
theorem dX7_into_15 : decode cX7_into 15 = .ok (.iload_n 1, 1) := by decide +kernel
theorem dX7_into_16 : decode cX7_into 16 = .ok (.aload_n 0, 1) := by decide +kernel
theorem dX7_into_17 : decode cX7_into 17 = .ok (.getfield 10, 3) := by decide +kernel
theorem dX7_into_20 : decode cX7_into 20 = .ok (.getfield 123, 3) := by decide +kernel
theorem dX7_into_23 : decode cX7_into 23 = .ok (.aload_n 0, 1) := by decide +kernel
theorem dX7_into_24 : decode cX7_into 24 = .ok (.getfield 10, 3) := by decide +kernel
theorem dX7_into_27 : decode cX7_into 27 = .ok (.getfield 126, 3) := by decide +kernel
theorem dX7_into_30 : decode cX7_into 30 = .ok (.invokevirtual 137, 3) := by decide +kernel
theorem dX7_into_33 : decode cX7_into 33 = .ok (.goto 4, 3) := by decide +kernel
theorem dX7_into_36 : decode cX7_into 36 = .ok (.iconst (-1), 1) := by decide +kernel
theorem dX7_into_37 : decode cX7_into 37 = .ok (.ireturn, 1) := by decide +kernel
theorem dX7_hot_0 : decode cX7_hot 0 = .ok (.iload_n 1, 1) := by decide +kernel
theorem dX7_hot_1 : decode cX7_hot 1 = .ok (.tableswitch 65 0 2 #[27, 35, 57], 27) := by decide +kernel
theorem dX7_hot_28 : decode cX7_hot 28 = .ok (.aload_n 0, 1) := by decide +kernel
theorem dX7_hot_29 : decode cX7_hot 29 = .ok (.getfield 10, 3) := by decide +kernel
theorem dX7_hot_32 : decode cX7_hot 32 = .ok (.invokevirtual 140, 3) := by decide +kernel
theorem dX7_hot_35 : decode cX7_hot 35 = .ok (.ireturn, 1) := by decide +kernel
theorem dX7_hot_36 : decode cX7_hot 36 = .ok (.aload_n 0, 1) := by decide +kernel
theorem dX7_hot_37 : decode cX7_hot 37 = .ok (.getfield 10, 3) := by decide +kernel
theorem dX7_hot_40 : decode cX7_hot 40 = .ok (.aload_n 0, 1) := by decide +kernel
theorem dX7_hot_41 : decode cX7_hot 41 = .ok (.getfield 10, 3) := by decide +kernel
theorem dX7_hot_44 : decode cX7_hot 44 = .ok (.getfield 123, 3) := by decide +kernel
theorem dX7_hot_47 : decode cX7_hot 47 = .ok (.aload_n 0, 1) := by decide +kernel
theorem dX7_hot_48 : decode cX7_hot 48 = .ok (.getfield 10, 3) := by decide +kernel
theorem dX7_hot_51 : decode cX7_hot 51 = .ok (.getfield 126, 3) := by decide +kernel
theorem dX7_hot_54 : decode cX7_hot 54 = .ok (.invokevirtual 144, 3) := by decide +kernel
theorem dX7_hot_57 : decode cX7_hot 57 = .ok (.ireturn, 1) := by decide +kernel
theorem dX7_hot_58 : decode cX7_hot 58 = .ok (.aload_n 0, 1) := by decide +kernel
theorem dX7_hot_59 : decode cX7_hot 59 = .ok (.getfield 10, 3) := by decide +kernel
theorem dX7_hot_62 : decode cX7_hot 62 = .ok (.invokevirtual 147, 3) := by decide +kernel
theorem dX7_hot_65 : decode cX7_hot 65 = .ok (.ireturn, 1) := by decide +kernel
theorem dX7_hot_66 : decode cX7_hot 66 = .ok (.iconst (-1), 1) := by decide +kernel
theorem dX7_hot_67 : decode cX7_hot 67 = .ok (.ireturn, 1) := by decide +kernel
theorem dX7_power_0 : decode cX7_power 0 = .ok (.iload_n 1, 1) := by decide +kernel
theorem dX7_power_1 : decode cX7_power 1 = .ok (.invokestatic 117, 3) := by decide +kernel
theorem dX7_power_4 : decode cX7_power 4 = .ok (.ifCond .eq 29, 3) := by decide +kernel
theorem dX7_power_7 : decode cX7_power 7 = .ok (.iload_n 2, 1) := by decide +kernel
theorem dX7_power_8 : decode cX7_power 8 = .ok (.invokestatic 120, 3) := by decide +kernel
theorem dX7_power_11 : decode cX7_power 11 = .ok (.ifCond .eq 22, 3) := by decide +kernel
theorem dX7_power_14 : decode cX7_power 14 = .ok (.aload_n 0, 1) := by decide +kernel
theorem dX7_power_15 : decode cX7_power 15 = .ok (.getfield 19, 3) := by decide +kernel
theorem dX7_power_18 : decode cX7_power 18 = .ok (.iload_n 1, 1) := by decide +kernel
theorem dX7_power_19 : decode cX7_power 19 = .ok (.iload_n 2, 1) := by decide +kernel
theorem dX7_power_20 : decode cX7_power 20 = .ok (.aload_n 0, 1) := by decide +kernel
theorem dX7_power_21 : decode cX7_power 21 = .ok (.getfield 10, 3) := by decide +kernel
theorem dX7_power_24 : decode cX7_power 24 = .ok (.invokevirtual 150, 3) := by decide +kernel
theorem dX7_power_27 : decode cX7_power 27 = .ok (.invokevirtual 153, 3) := by decide +kernel
theorem dX7_power_30 : decode cX7_power 30 = .ok (.goto 4, 3) := by decide +kernel
theorem dX7_power_33 : decode cX7_power 33 = .ok (.iconst (-1), 1) := by decide +kernel
theorem dX7_power_34 : decode cX7_power 34 = .ok (.ireturn, 1) := by decide +kernel
theorem dX7_best_0 : decode cX7_best 0 = .ok (.aload_n 0, 1) := by decide +kernel
theorem dX7_best_1 : decode cX7_best 1 = .ok (.getfield 10, 3) := by decide +kernel
theorem dX7_best_4 : decode cX7_best 4 = .ok (.invokevirtual 150, 3) := by decide +kernel
theorem dX7_best_7 : decode cX7_best 7 = .ok (.istore_n 1, 1) := by decide +kernel
theorem dX7_best_8 : decode cX7_best 8 = .ok (.ldc 156, 2) := by decide +kernel
theorem dX7_best_10 : decode cX7_best 10 = .ok (.istore_n 2, 1) := by decide +kernel
theorem dX7_best_11 : decode cX7_best 11 = .ok (.bipush (-4), 2) := by decide +kernel
theorem dX7_best_13 : decode cX7_best 13 = .ok (.istore_n 3, 1) := by decide +kernel
theorem dX7_best_14 : decode cX7_best 14 = .ok (.iconst 1, 1) := by decide +kernel
theorem dX7_best_15 : decode cX7_best 15 = .ok (.istore 4, 2) := by decide +kernel
theorem dX7_best_17 : decode cX7_best 17 = .ok (.iload 4, 2) := by decide +kernel
theorem dX7_best_19 : decode cX7_best 19 = .ok (.iconst 5, 1) := by decide +kernel
theorem dX7_best_20 : decode cX7_best 20 = .ok (.if_icmp .gt 74, 3) := by decide +kernel
theorem dX7_best_23 : decode cX7_best 23 = .ok (.bipush 10, 2) := by decide +kernel
theorem dX7_best_25 : decode cX7_best 25 = .ok (.istore 5, 2) := by decide +kernel
theorem dX7_best_27 : decode cX7_best 27 = .ok (.iload 5, 2) := by decide +kernel
theorem dX7_best_29 : decode cX7_best 29 = .ok (.bipush 30, 2) := by decide +kernel
theorem dX7_best_31 : decode cX7_best 31 = .ok (.if_icmp .gt 57, 3) := by decide +kernel
theorem dX7_best_34 : decode cX7_best 34 = .ok (.aload_n 0, 1) := by decide +kernel
theorem dX7_best_35 : decode cX7_best 35 = .ok (.getfield 19, 3) := by decide +kernel
theorem dX7_best_38 : decode cX7_best 38 = .ok (.iload 5, 2) := by decide +kernel
theorem dX7_best_40 : decode cX7_best 40 = .ok (.iload 4, 2) := by decide +kernel
theorem dX7_best_42 : decode cX7_best 42 = .ok (.iload_n 1, 1) := by decide +kernel
theorem dX7_best_43 : decode cX7_best 43 = .ok (.invokevirtual 153, 3) := by decide +kernel
theorem dX7_best_46 : decode cX7_best 46 = .ok (.istore 6, 2) := by decide +kernel
theorem dX7_best_48 : decode cX7_best 48 = .ok (.iload 6, 2) := by decide +kernel
theorem dX7_best_50 : decode cX7_best 50 = .ok (.iload_n 2, 1) := by decide +kernel
theorem dX7_best_51 : decode cX7_best 51 = .ok (.if_icmp .ge 31, 3) := by decide +kernel
theorem dX7_best_54 : decode cX7_best 54 = .ok (.aload_n 0, 1) := by decide +kernel
theorem dX7_best_55 : decode cX7_best 55 = .ok (.getfield 10, 3) := by decide +kernel
theorem dX7_best_58 : decode cX7_best 58 = .ok (.iload 5, 2) := by decide +kernel
theorem dX7_best_60 : decode cX7_best 60 = .ok (.iload 4, 2) := by decide +kernel
theorem dX7_best_62 : decode cX7_best 62 = .ok (.invokevirtual 144, 3) := by decide +kernel
theorem dX7_best_65 : decode cX7_best 65 = .ok (.bipush (-4), 2) := by decide +kernel
theorem dX7_best_67 : decode cX7_best 67 = .ok (.if_icmp .ne 15, 3) := by decide +kernel
theorem dX7_best_70 : decode cX7_best 70 = .ok (.iload 6, 2) := by decide +kernel
theorem dX7_best_72 : decode cX7_best 72 = .ok (.istore_n 2, 1) := by decide +kernel
theorem dX7_best_73 : decode cX7_best 73 = .ok (.bipush 10, 2) := by decide +kernel
theorem dX7_best_75 : decode cX7_best 75 = .ok (.iload 5, 2) := by decide +kernel
theorem dX7_best_77 : decode cX7_best 77 = .ok (.imul, 1) := by decide +kernel
theorem dX7_best_78 : decode cX7_best 78 = .ok (.iload 4, 2) := by decide +kernel
theorem dX7_best_80 : decode cX7_best 80 = .ok (.iadd, 1) := by decide +kernel
theorem dX7_best_81 : decode cX7_best 81 = .ok (.istore_n 3, 1) := by decide +kernel
theorem dX7_best_82 : decode cX7_best 82 = .ok (.iinc 5 1, 3) := by decide +kernel
theorem dX7_best_85 : decode cX7_best 85 = .ok (.goto (-58), 3) := by decide +kernel
theorem dX7_best_88 : decode cX7_best 88 = .ok (.iinc 4 1, 3) := by decide +kernel
theorem dX7_best_91 : decode cX7_best 91 = .ok (.goto (-74), 3) := by decide +kernel
theorem dX7_best_94 : decode cX7_best 94 = .ok (.iload_n 3, 1) := by decide +kernel
theorem dX7_best_95 : decode cX7_best 95 = .ok (.ireturn, 1) := by decide +kernel
theorem dX7_minutes_0 : decode cX7_minutes 0 = .ok (.aload_n 0, 1) := by decide +kernel
theorem dX7_minutes_1 : decode cX7_minutes 1 = .ok (.getfield 10, 3) := by decide +kernel
theorem dX7_minutes_4 : decode cX7_minutes 4 = .ok (.iload_n 1, 1) := by decide +kernel
theorem dX7_minutes_5 : decode cX7_minutes 5 = .ok (.invokevirtual 67, 3) := by decide +kernel
theorem dX7_minutes_8 : decode cX7_minutes 8 = .ok (.ifCond .ne 5, 3) := by decide +kernel
theorem dX7_minutes_11 : decode cX7_minutes 11 = .ok (.iconst (-1), 1) := by decide +kernel
theorem dX7_minutes_12 : decode cX7_minutes 12 = .ok (.ireturn, 1) := by decide +kernel
theorem dX7_minutes_13 : decode cX7_minutes 13 = .ok (.aload_n 0, 1) := by decide +kernel
theorem dX7_minutes_14 : decode cX7_minutes 14 = .ok (.getfield 10, 3) := by decide +kernel
theorem dX7_minutes_17 : decode cX7_minutes 17 = .ok (.iload_n 1, 1) := by decide +kernel
theorem dX7_minutes_18 : decode cX7_minutes 18 = .ok (.invokevirtual 157, 3) := by decide +kernel
theorem dX7_minutes_21 : decode cX7_minutes 21 = .ok (.istore_n 2, 1) := by decide +kernel
theorem dX7_minutes_22 : decode cX7_minutes 22 = .ok (.iload_n 2, 1) := by decide +kernel
theorem dX7_minutes_23 : decode cX7_minutes 23 = .ok (.ifCond .ge 5, 3) := by decide +kernel
theorem dX7_minutes_26 : decode cX7_minutes 26 = .ok (.iconst 0, 1) := by decide +kernel
theorem dX7_minutes_27 : decode cX7_minutes 27 = .ok (.ireturn, 1) := by decide +kernel
theorem dX7_minutes_28 : decode cX7_minutes 28 = .ok (.aload_n 0, 1) := by decide +kernel
theorem dX7_minutes_29 : decode cX7_minutes 29 = .ok (.getfield 10, 3) := by decide +kernel
theorem dX7_minutes_32 : decode cX7_minutes 32 = .ok (.getfield 71, 3) := by decide +kernel
theorem dX7_minutes_35 : decode cX7_minutes 35 = .ok (.iload_n 1, 1) := by decide +kernel
theorem dX7_minutes_36 : decode cX7_minutes 36 = .ok (.iaload, 1) := by decide +kernel
theorem dX7_minutes_37 : decode cX7_minutes 37 = .ok (.sipush 1000, 3) := by decide +kernel
theorem dX7_minutes_40 : decode cX7_minutes 40 = .ok (.imul, 1) := by decide +kernel
theorem dX7_minutes_41 : decode cX7_minutes 41 = .ok (.aload_n 0, 1) := by decide +kernel
theorem dX7_minutes_42 : decode cX7_minutes 42 = .ok (.getfield 10, 3) := by decide +kernel
theorem dX7_minutes_45 : decode cX7_minutes 45 = .ok (.getfield 160, 3) := by decide +kernel
theorem dX7_minutes_48 : decode cX7_minutes 48 = .ok (.iload_n 1, 1) := by decide +kernel
theorem dX7_minutes_49 : decode cX7_minutes 49 = .ok (.iaload, 1) := by decide +kernel
theorem dX7_minutes_50 : decode cX7_minutes 50 = .ok (.invokestatic 163, 3) := by decide +kernel
theorem dX7_minutes_53 : decode cX7_minutes 53 = .ok (.istore_n 3, 1) := by decide +kernel
theorem dX7_minutes_54 : decode cX7_minutes 54 = .ok (.iload_n 3, 1) := by decide +kernel
theorem dX7_minutes_55 : decode cX7_minutes 55 = .ok (.ifCond .ne 8, 3) := by decide +kernel
theorem dX7_minutes_58 : decode cX7_minutes 58 = .ok (.bipush (-4), 2) := by decide +kernel
theorem dX7_minutes_60 : decode cX7_minutes 60 = .ok (.goto 10, 3) := by decide +kernel
theorem dX7_minutes_63 : decode cX7_minutes 63 = .ok (.iload_n 2, 1) := by decide +kernel
theorem dX7_minutes_64 : decode cX7_minutes 64 = .ok (.iload_n 3, 1) := by decide +kernel
theorem dX7_minutes_65 : decode cX7_minutes 65 = .ok (.invokestatic 163, 3) := by decide +kernel
theorem dX7_minutes_68 : decode cX7_minutes 68 = .ok (.iconst 1, 1) := by decide +kernel
theorem dX7_minutes_69 : decode cX7_minutes 69 = .ok (.iadd, 1) := by decide +kernel
theorem dX7_minutes_70 : decode cX7_minutes 70 = .ok (.ireturn, 1) := by decide +kernel
theorem dX7_machine_0 : decode cX7_machine 0 = .ok (.iload_n 1, 1) := by decide +kernel
theorem dX7_machine_1 : decode cX7_machine 1 = .ok (.iconst 1, 1) := by decide +kernel
theorem dX7_machine_2 : decode cX7_machine 2 = .ok (.sipush 300, 3) := by decide +kernel
theorem dX7_machine_5 : decode cX7_machine 5 = .ok (.invokestatic 58, 3) := by decide +kernel
theorem dX7_machine_8 : decode cX7_machine 8 = .ok (.ifCond .eq 25, 3) := by decide +kernel
theorem dX7_machine_11 : decode cX7_machine 11 = .ok (.iload_n 2, 1) := by decide +kernel
theorem dX7_machine_12 : decode cX7_machine 12 = .ok (.iconst 1, 1) := by decide +kernel
theorem dX7_machine_13 : decode cX7_machine 13 = .ok (.bipush 10, 2) := by decide +kernel
theorem dX7_machine_15 : decode cX7_machine 15 = .ok (.invokestatic 58, 3) := by decide +kernel
theorem dX7_machine_18 : decode cX7_machine 18 = .ok (.ifCond .eq 15, 3) := by decide +kernel
theorem dX7_machine_21 : decode cX7_machine 21 = .ok (.aload_n 0, 1) := by decide +kernel
theorem dX7_machine_22 : decode cX7_machine 22 = .ok (.getfield 26, 3) := by decide +kernel
theorem dX7_machine_25 : decode cX7_machine 25 = .ok (.iload_n 1, 1) := by decide +kernel
theorem dX7_machine_26 : decode cX7_machine 26 = .ok (.iload_n 2, 1) := by decide +kernel
theorem dX7_machine_27 : decode cX7_machine 27 = .ok (.invokevirtual 166, 3) := by decide +kernel
theorem dX7_machine_30 : decode cX7_machine 30 = .ok (.goto 4, 3) := by decide +kernel
theorem dX7_machine_33 : decode cX7_machine 33 = .ok (.iconst (-1), 1) := by decide +kernel
theorem dX7_machine_34 : decode cX7_machine 34 = .ok (.ireturn, 1) := by decide +kernel
theorem dX7_leave_0 : decode cX7_leave 0 = .ok (.aload_n 0, 1) := by decide +kernel
theorem dX7_leave_1 : decode cX7_leave 1 = .ok (.getfield 26, 3) := by decide +kernel
theorem dX7_leave_4 : decode cX7_leave 4 = .ok (.getfield 168, 3) := by decide +kernel
theorem dX7_leave_7 : decode cX7_leave 7 = .ok (.ifCond .ne 6, 3) := by decide +kernel
theorem dX7_leave_10 : decode cX7_leave 10 = .ok (.bipush (-4), 2) := by decide +kernel
theorem dX7_leave_12 : decode cX7_leave 12 = .ok (.ireturn, 1) := by decide +kernel
theorem dX7_leave_13 : decode cX7_leave 13 = .ok (.aload_n 0, 1) := by decide +kernel
theorem dX7_leave_14 : decode cX7_leave 14 = .ok (.getfield 26, 3) := by decide +kernel
theorem dX7_leave_17 : decode cX7_leave 17 = .ok (.dup, 1) := by decide +kernel
theorem dX7_leave_18 : decode cX7_leave 18 = .ok (.getfield 168, 3) := by decide +kernel
theorem dX7_leave_21 : decode cX7_leave 21 = .ok (.iconst 1, 1) := by decide +kernel
theorem dX7_leave_22 : decode cX7_leave 22 = .ok (.isub, 1) := by decide +kernel
theorem dX7_leave_23 : decode cX7_leave 23 = .ok (.putfield 168, 3) := by decide +kernel
theorem dX7_leave_26 : decode cX7_leave 26 = .ok (.aload_n 0, 1) := by decide +kernel
theorem dX7_leave_27 : decode cX7_leave 27 = .ok (.getfield 26, 3) := by decide +kernel
theorem dX7_leave_30 : decode cX7_leave 30 = .ok (.getfield 168, 3) := by decide +kernel
theorem dX7_leave_33 : decode cX7_leave 33 = .ok (.ireturn, 1) := by decide +kernel
theorem dX7_placed_0 : decode cX7_placed 0 = .ok (.iload_n 1, 1) := by decide +kernel
theorem dX7_placed_1 : decode cX7_placed 1 = .ok (.ifCond .lt 14, 3) := by decide +kernel
theorem dX7_placed_4 : decode cX7_placed 4 = .ok (.iload_n 1, 1) := by decide +kernel
theorem dX7_placed_5 : decode cX7_placed 5 = .ok (.aload_n 0, 1) := by decide +kernel
theorem dX7_placed_6 : decode cX7_placed 6 = .ok (.getfield 26, 3) := by decide +kernel
theorem dX7_placed_9 : decode cX7_placed 9 = .ok (.getfield 168, 3) := by decide +kernel
theorem dX7_placed_12 : decode cX7_placed 12 = .ok (.if_icmp .lt 5, 3) := by decide +kernel
theorem dX7_placed_15 : decode cX7_placed 15 = .ok (.iconst (-1), 1) := by decide +kernel
theorem dX7_placed_16 : decode cX7_placed 16 = .ok (.ireturn, 1) := by decide +kernel
theorem dX7_placed_17 : decode cX7_placed 17 = .ok (.aload_n 0, 1) := by decide +kernel
theorem dX7_placed_18 : decode cX7_placed 18 = .ok (.getfield 26, 3) := by decide +kernel
theorem dX7_placed_21 : decode cX7_placed 21 = .ok (.aload_n 0, 1) := by decide +kernel
theorem dX7_placed_22 : decode cX7_placed 22 = .ok (.getfield 10, 3) := by decide +kernel
theorem dX7_placed_25 : decode cX7_placed 25 = .ok (.invokevirtual 171, 3) := by decide +kernel
theorem dX7_placed_28 : decode cX7_placed 28 = .ok (.bipush (-4), 2) := by decide +kernel
theorem dX7_placed_30 : decode cX7_placed 30 = .ok (.if_icmp .ne 8, 3) := by decide +kernel
theorem dX7_placed_33 : decode cX7_placed 33 = .ok (.bipush (-4), 2) := by decide +kernel
theorem dX7_placed_35 : decode cX7_placed 35 = .ok (.goto 12, 3) := by decide +kernel
theorem dX7_placed_38 : decode cX7_placed 38 = .ok (.aload_n 0, 1) := by decide +kernel
theorem dX7_placed_39 : decode cX7_placed 39 = .ok (.getfield 26, 3) := by decide +kernel
theorem dX7_placed_42 : decode cX7_placed 42 = .ok (.getfield 175, 3) := by decide +kernel
theorem dX7_placed_45 : decode cX7_placed 45 = .ok (.iload_n 1, 1) := by decide +kernel
theorem dX7_placed_46 : decode cX7_placed 46 = .ok (.iaload, 1) := by decide +kernel
theorem dX7_placed_47 : decode cX7_placed 47 = .ok (.ireturn, 1) := by decide +kernel
theorem dX7_warmest_0 : decode cX7_warmest 0 = .ok (.aload_n 0, 1) := by decide +kernel
theorem dX7_warmest_1 : decode cX7_warmest 1 = .ok (.getfield 10, 3) := by decide +kernel
theorem dX7_warmest_4 : decode cX7_warmest 4 = .ok (.getfield 105, 3) := by decide +kernel
theorem dX7_warmest_7 : decode cX7_warmest 7 = .ok (.ifCond .ne 8, 3) := by decide +kernel
theorem dX7_warmest_10 : decode cX7_warmest 10 = .ok (.bipush (-4), 2) := by decide +kernel
theorem dX7_warmest_12 : decode cX7_warmest 12 = .ok (.goto 14, 3) := by decide +kernel
theorem dX7_warmest_15 : decode cX7_warmest 15 = .ok (.aload_n 0, 1) := by decide +kernel
theorem dX7_warmest_16 : decode cX7_warmest 16 = .ok (.getfield 26, 3) := by decide +kernel
theorem dX7_warmest_19 : decode cX7_warmest 19 = .ok (.aload_n 0, 1) := by decide +kernel
theorem dX7_warmest_20 : decode cX7_warmest 20 = .ok (.getfield 10, 3) := by decide +kernel
theorem dX7_warmest_23 : decode cX7_warmest 23 = .ok (.invokevirtual 171, 3) := by decide +kernel
theorem dX7_warmest_26 : decode cX7_warmest 26 = .ok (.ireturn, 1) := by decide +kernel
theorem dX7_placings_0 : decode cX7_placings 0 = .ok (.aload_n 0, 1) := by decide +kernel
theorem dX7_placings_1 : decode cX7_placings 1 = .ok (.getfield 26, 3) := by decide +kernel
theorem dX7_placings_4 : decode cX7_placings 4 = .ok (.aload_n 0, 1) := by decide +kernel
theorem dX7_placings_5 : decode cX7_placings 5 = .ok (.getfield 10, 3) := by decide +kernel
theorem dX7_placings_8 : decode cX7_placings 8 = .ok (.invokevirtual 178, 3) := by decide +kernel
theorem dX7_placings_11 : decode cX7_placings 11 = .ok (.ireturn, 1) := by decide +kernel
theorem dX7_feed_0 : decode cX7_feed 0 = .ok (.iload_n 1, 1) := by decide +kernel
theorem dX7_feed_1 : decode cX7_feed 1 = .ok (.bipush (-4), 2) := by decide +kernel
theorem dX7_feed_3 : decode cX7_feed 3 = .ok (.if_icmp .eq 14, 3) := by decide +kernel
theorem dX7_feed_6 : decode cX7_feed 6 = .ok (.aload_n 0, 1) := by decide +kernel
theorem dX7_feed_7 : decode cX7_feed 7 = .ok (.getfield 40, 3) := by decide +kernel
theorem dX7_feed_10 : decode cX7_feed 10 = .ok (.iload_n 1, 1) := by decide +kernel
theorem dX7_feed_11 : decode cX7_feed 11 = .ok (.invokevirtual 181, 3) := by decide +kernel
theorem dX7_feed_14 : decode cX7_feed 14 = .ok (.ifCond .eq 18, 3) := by decide +kernel
theorem dX7_feed_17 : decode cX7_feed 17 = .ok (.iload_n 2, 1) := by decide +kernel
theorem dX7_feed_18 : decode cX7_feed 18 = .ok (.iconst 0, 1) := by decide +kernel
theorem dX7_feed_19 : decode cX7_feed 19 = .ok (.sipush 10000, 3) := by decide +kernel
theorem dX7_feed_22 : decode cX7_feed 22 = .ok (.invokestatic 58, 3) := by decide +kernel
theorem dX7_feed_25 : decode cX7_feed 25 = .ok (.ifCond .eq 7, 3) := by decide +kernel
theorem dX7_feed_28 : decode cX7_feed 28 = .ok (.iconst 1, 1) := by decide +kernel
theorem dX7_feed_29 : decode cX7_feed 29 = .ok (.goto 4, 3) := by decide +kernel
theorem dX7_feed_32 : decode cX7_feed 32 = .ok (.iconst 0, 1) := by decide +kernel
theorem dX7_feed_33 : decode cX7_feed 33 = .ok (.istore_n 3, 1) := by decide +kernel
theorem dX7_feed_34 : decode cX7_feed 34 = .ok (.iload_n 3, 1) := by decide +kernel
theorem dX7_feed_35 : decode cX7_feed 35 = .ok (.ifCond .eq 15, 3) := by decide +kernel
theorem dX7_feed_38 : decode cX7_feed 38 = .ok (.aload_n 0, 1) := by decide +kernel
theorem dX7_feed_39 : decode cX7_feed 39 = .ok (.getfield 40, 3) := by decide +kernel
theorem dX7_feed_42 : decode cX7_feed 42 = .ok (.iload_n 1, 1) := by decide +kernel
theorem dX7_feed_43 : decode cX7_feed 43 = .ok (.iload_n 2, 1) := by decide +kernel
theorem dX7_feed_44 : decode cX7_feed 44 = .ok (.invokevirtual 182, 3) := by decide +kernel
theorem dX7_feed_47 : decode cX7_feed 47 = .ok (.goto 4, 3) := by decide +kernel
theorem dX7_feed_50 : decode cX7_feed 50 = .ok (.iconst (-1), 1) := by decide +kernel
theorem dX7_feed_51 : decode cX7_feed 51 = .ok (.ireturn, 1) := by decide +kernel
theorem dX7_plug_0 : decode cX7_plug 0 = .ok (.aload_n 0, 1) := by decide +kernel
theorem dX7_plug_1 : decode cX7_plug 1 = .ok (.getfield 10, 3) := by decide +kernel
theorem dX7_plug_4 : decode cX7_plug 4 = .ok (.iload_n 1, 1) := by decide +kernel
theorem dX7_plug_5 : decode cX7_plug 5 = .ok (.invokevirtual 67, 3) := by decide +kernel
theorem dX7_plug_8 : decode cX7_plug 8 = .ok (.ifCond .eq 29, 3) := by decide +kernel
theorem dX7_plug_11 : decode cX7_plug 11 = .ok (.iload_n 2, 1) := by decide +kernel
theorem dX7_plug_12 : decode cX7_plug 12 = .ok (.iconst 0, 1) := by decide +kernel
theorem dX7_plug_13 : decode cX7_plug 13 = .ok (.iconst 1, 1) := by decide +kernel
theorem dX7_plug_14 : decode cX7_plug 14 = .ok (.invokestatic 58, 3) := by decide +kernel
theorem dX7_plug_17 : decode cX7_plug 17 = .ok (.ifCond .eq 20, 3) := by decide +kernel
theorem dX7_plug_20 : decode cX7_plug 20 = .ok (.iload_n 3, 1) := by decide +kernel
theorem dX7_plug_21 : decode cX7_plug 21 = .ok (.bipush (-4), 2) := by decide +kernel
theorem dX7_plug_23 : decode cX7_plug 23 = .ok (.if_icmp .eq 16, 3) := by decide +kernel
theorem dX7_plug_26 : decode cX7_plug 26 = .ok (.aload_n 0, 1) := by decide +kernel
theorem dX7_plug_27 : decode cX7_plug 27 = .ok (.getfield 40, 3) := by decide +kernel
theorem dX7_plug_30 : decode cX7_plug 30 = .ok (.iload_n 3, 1) := by decide +kernel
theorem dX7_plug_31 : decode cX7_plug 31 = .ok (.invokevirtual 181, 3) := by decide +kernel
theorem dX7_plug_34 : decode cX7_plug 34 = .ok (.ifCond .ne 5, 3) := by decide +kernel
theorem dX7_plug_37 : decode cX7_plug 37 = .ok (.iconst (-1), 1) := by decide +kernel
theorem dX7_plug_38 : decode cX7_plug 38 = .ok (.ireturn, 1) := by decide +kernel
theorem dX7_plug_39 : decode cX7_plug 39 = .ok (.iload_n 3, 1) := by decide +kernel
theorem dX7_plug_40 : decode cX7_plug 40 = .ok (.bipush (-4), 2) := by decide +kernel
theorem dX7_plug_42 : decode cX7_plug 42 = .ok (.if_icmp .eq 23, 3) := by decide +kernel
theorem dX7_plug_45 : decode cX7_plug 45 = .ok (.aload_n 0, 1) := by decide +kernel
theorem dX7_plug_46 : decode cX7_plug 46 = .ok (.getfield 40, 3) := by decide +kernel
theorem dX7_plug_49 : decode cX7_plug 49 = .ok (.getfield 183, 3) := by decide +kernel
theorem dX7_plug_52 : decode cX7_plug 52 = .ok (.iconst 1, 1) := by decide +kernel
theorem dX7_plug_53 : decode cX7_plug 53 = .ok (.iload_n 2, 1) := by decide +kernel
theorem dX7_plug_54 : decode cX7_plug 54 = .ok (.isub, 1) := by decide +kernel
theorem dX7_plug_55 : decode cX7_plug 55 = .ok (.aaload, 1) := by decide +kernel
theorem dX7_plug_56 : decode cX7_plug 56 = .ok (.iload_n 1, 1) := by decide +kernel
theorem dX7_plug_57 : decode cX7_plug 57 = .ok (.iaload, 1) := by decide +kernel
theorem dX7_plug_58 : decode cX7_plug 58 = .ok (.iload_n 3, 1) := by decide +kernel
theorem dX7_plug_59 : decode cX7_plug 59 = .ok (.if_icmp .ne 6, 3) := by decide +kernel
theorem dX7_plug_62 : decode cX7_plug 62 = .ok (.bipush (-2), 2) := by decide +kernel
theorem dX7_plug_64 : decode cX7_plug 64 = .ok (.ireturn, 1) := by decide +kernel
theorem dX7_plug_65 : decode cX7_plug 65 = .ok (.aload_n 0, 1) := by decide +kernel
theorem dX7_plug_66 : decode cX7_plug 66 = .ok (.getfield 40, 3) := by decide +kernel
theorem dX7_plug_69 : decode cX7_plug 69 = .ok (.getfield 183, 3) := by decide +kernel
theorem dX7_plug_72 : decode cX7_plug 72 = .ok (.iload_n 2, 1) := by decide +kernel
theorem dX7_plug_73 : decode cX7_plug 73 = .ok (.aaload, 1) := by decide +kernel
theorem dX7_plug_74 : decode cX7_plug 74 = .ok (.iload_n 1, 1) := by decide +kernel
theorem dX7_plug_75 : decode cX7_plug 75 = .ok (.iaload, 1) := by decide +kernel
theorem dX7_plug_76 : decode cX7_plug 76 = .ok (.istore 4, 2) := by decide +kernel
theorem dX7_plug_78 : decode cX7_plug 78 = .ok (.aload_n 0, 1) := by decide +kernel
theorem dX7_plug_79 : decode cX7_plug 79 = .ok (.getfield 40, 3) := by decide +kernel
theorem dX7_plug_82 : decode cX7_plug 82 = .ok (.getfield 183, 3) := by decide +kernel
theorem dX7_plug_85 : decode cX7_plug 85 = .ok (.iload_n 2, 1) := by decide +kernel
theorem dX7_plug_86 : decode cX7_plug 86 = .ok (.aaload, 1) := by decide +kernel
theorem dX7_plug_87 : decode cX7_plug 87 = .ok (.iload_n 1, 1) := by decide +kernel
theorem dX7_plug_88 : decode cX7_plug 88 = .ok (.iload_n 3, 1) := by decide +kernel
theorem dX7_plug_89 : decode cX7_plug 89 = .ok (.iastore, 1) := by decide +kernel
theorem dX7_plug_90 : decode cX7_plug 90 = .ok (.iload 4, 2) := by decide +kernel
theorem dX7_plug_92 : decode cX7_plug 92 = .ok (.ireturn, 1) := by decide +kernel
theorem dX7_fail_0 : decode cX7_fail 0 = .ok (.aload_n 0, 1) := by decide +kernel
theorem dX7_fail_1 : decode cX7_fail 1 = .ok (.getfield 40, 3) := by decide +kernel
theorem dX7_fail_4 : decode cX7_fail 4 = .ok (.iload_n 1, 1) := by decide +kernel
theorem dX7_fail_5 : decode cX7_fail 5 = .ok (.invokevirtual 181, 3) := by decide +kernel
theorem dX7_fail_8 : decode cX7_fail 8 = .ok (.ifCond .ne 5, 3) := by decide +kernel
theorem dX7_fail_11 : decode cX7_fail 11 = .ok (.iconst (-1), 1) := by decide +kernel
theorem dX7_fail_12 : decode cX7_fail 12 = .ok (.ireturn, 1) := by decide +kernel
theorem dX7_fail_13 : decode cX7_fail 13 = .ok (.aload_n 0, 1) := by decide +kernel
theorem dX7_fail_14 : decode cX7_fail 14 = .ok (.getfield 40, 3) := by decide +kernel
theorem dX7_fail_17 : decode cX7_fail 17 = .ok (.getfield 186, 3) := by decide +kernel
theorem dX7_fail_20 : decode cX7_fail 20 = .ok (.iload_n 1, 1) := by decide +kernel
theorem dX7_fail_21 : decode cX7_fail 21 = .ok (.ishr, 1) := by decide +kernel
theorem dX7_fail_22 : decode cX7_fail 22 = .ok (.iconst 1, 1) := by decide +kernel
theorem dX7_fail_23 : decode cX7_fail 23 = .ok (.iand, 1) := by decide +kernel
theorem dX7_fail_24 : decode cX7_fail 24 = .ok (.istore_n 3, 1) := by decide +kernel
theorem dX7_fail_25 : decode cX7_fail 25 = .ok (.aload_n 0, 1) := by decide +kernel
theorem dX7_fail_26 : decode cX7_fail 26 = .ok (.getfield 40, 3) := by decide +kernel
theorem dX7_fail_29 : decode cX7_fail 29 = .ok (.iload_n 2, 1) := by decide +kernel
theorem dX7_fail_30 : decode cX7_fail 30 = .ok (.ifCond .eq 17, 3) := by decide +kernel
theorem dX7_fail_33 : decode cX7_fail 33 = .ok (.aload_n 0, 1) := by decide +kernel
theorem dX7_fail_34 : decode cX7_fail 34 = .ok (.getfield 40, 3) := by decide +kernel
theorem dX7_fail_37 : decode cX7_fail 37 = .ok (.getfield 186, 3) := by decide +kernel
theorem dX7_fail_40 : decode cX7_fail 40 = .ok (.iconst 1, 1) := by decide +kernel
theorem dX7_fail_41 : decode cX7_fail 41 = .ok (.iload_n 1, 1) := by decide +kernel
theorem dX7_fail_42 : decode cX7_fail 42 = .ok (.ishl, 1) := by decide +kernel
theorem dX7_fail_43 : decode cX7_fail 43 = .ok (.ior, 1) := by decide +kernel
theorem dX7_fail_44 : decode cX7_fail 44 = .ok (.goto 16, 3) := by decide +kernel
theorem dX7_fail_47 : decode cX7_fail 47 = .ok (.aload_n 0, 1) := by decide +kernel
theorem dX7_fail_48 : decode cX7_fail 48 = .ok (.getfield 40, 3) := by decide +kernel
theorem dX7_fail_51 : decode cX7_fail 51 = .ok (.getfield 186, 3) := by decide +kernel
theorem dX7_fail_54 : decode cX7_fail 54 = .ok (.iconst 1, 1) := by decide +kernel
theorem dX7_fail_55 : decode cX7_fail 55 = .ok (.iload_n 1, 1) := by decide +kernel
theorem dX7_fail_56 : decode cX7_fail 56 = .ok (.ishl, 1) := by decide +kernel
theorem dX7_fail_57 : decode cX7_fail 57 = .ok (.iconst (-1), 1) := by decide +kernel
theorem dX7_fail_58 : decode cX7_fail 58 = .ok (.ixor, 1) := by decide +kernel
theorem dX7_fail_59 : decode cX7_fail 59 = .ok (.iand, 1) := by decide +kernel
theorem dX7_fail_60 : decode cX7_fail 60 = .ok (.putfield 186, 3) := by decide +kernel
theorem dX7_fail_63 : decode cX7_fail 63 = .ok (.iload_n 3, 1) := by decide +kernel
theorem dX7_fail_64 : decode cX7_fail 64 = .ok (.ireturn, 1) := by decide +kernel
theorem dX7_through_0 : decode cX7_through 0 = .ok (.aload_n 0, 1) := by decide +kernel
theorem dX7_through_1 : decode cX7_through 1 = .ok (.getfield 40, 3) := by decide +kernel
theorem dX7_through_4 : decode cX7_through 4 = .ok (.iload_n 1, 1) := by decide +kernel
theorem dX7_through_5 : decode cX7_through 5 = .ok (.invokevirtual 181, 3) := by decide +kernel
theorem dX7_through_8 : decode cX7_through 8 = .ok (.ifCond .ne 5, 3) := by decide +kernel
theorem dX7_through_11 : decode cX7_through 11 = .ok (.iconst (-1), 1) := by decide +kernel
theorem dX7_through_12 : decode cX7_through 12 = .ok (.ireturn, 1) := by decide +kernel
theorem dX7_through_13 : decode cX7_through 13 = .ok (.aload_n 0, 1) := by decide +kernel
theorem dX7_through_14 : decode cX7_through 14 = .ok (.getfield 40, 3) := by decide +kernel
theorem dX7_through_17 : decode cX7_through 17 = .ok (.aload_n 0, 1) := by decide +kernel
theorem dX7_through_18 : decode cX7_through 18 = .ok (.getfield 40, 3) := by decide +kernel
theorem dX7_through_21 : decode cX7_through 21 = .ok (.aload_n 0, 1) := by decide +kernel
theorem dX7_through_22 : decode cX7_through 22 = .ok (.getfield 40, 3) := by decide +kernel
theorem dX7_through_25 : decode cX7_through 25 = .ok (.getfield 186, 3) := by decide +kernel
theorem dX7_through_28 : decode cX7_through 28 = .ok (.invokevirtual 189, 3) := by decide +kernel
theorem dX7_through_31 : decode cX7_through 31 = .ok (.aload_n 0, 1) := by decide +kernel
theorem dX7_through_32 : decode cX7_through 32 = .ok (.getfield 10, 3) := by decide +kernel
theorem dX7_through_35 : decode cX7_through 35 = .ok (.invokevirtual 192, 3) := by decide +kernel
theorem dX7_through_38 : decode cX7_through 38 = .ok (.aload_n 0, 1) := by decide +kernel
theorem dX7_through_39 : decode cX7_through 39 = .ok (.getfield 40, 3) := by decide +kernel
theorem dX7_through_42 : decode cX7_through 42 = .ok (.getfield 196, 3) := by decide +kernel
theorem dX7_through_45 : decode cX7_through 45 = .ok (.iload_n 1, 1) := by decide +kernel
theorem dX7_through_46 : decode cX7_through 46 = .ok (.iaload, 1) := by decide +kernel
theorem dX7_through_47 : decode cX7_through 47 = .ok (.ireturn, 1) := by decide +kernel
theorem dX7_state_0 : decode cX7_state 0 = .ok (.aload_n 0, 1) := by decide +kernel
theorem dX7_state_1 : decode cX7_state 1 = .ok (.getfield 40, 3) := by decide +kernel
theorem dX7_state_4 : decode cX7_state 4 = .ok (.aload_n 0, 1) := by decide +kernel
theorem dX7_state_5 : decode cX7_state 5 = .ok (.getfield 40, 3) := by decide +kernel
theorem dX7_state_8 : decode cX7_state 8 = .ok (.getfield 186, 3) := by decide +kernel
theorem dX7_state_11 : decode cX7_state 11 = .ok (.invokevirtual 189, 3) := by decide +kernel
theorem dX7_state_14 : decode cX7_state 14 = .ok (.istore_n 2, 1) := by decide +kernel
theorem dX7_state_15 : decode cX7_state 15 = .ok (.iload_n 1, 1) := by decide +kernel
theorem dX7_state_16 : decode cX7_state 16 = .ok (.tableswitch 105 0 4 #[36, 52, 68, 84, 100], 36) := by decide +kernel
theorem dX7_state_52 : decode cX7_state 52 = .ok (.aload_n 0, 1) := by decide +kernel
theorem dX7_state_53 : decode cX7_state 53 = .ok (.getfield 40, 3) := by decide +kernel
theorem dX7_state_56 : decode cX7_state 56 = .ok (.iload_n 2, 1) := by decide +kernel
theorem dX7_state_57 : decode cX7_state 57 = .ok (.aload_n 0, 1) := by decide +kernel
theorem dX7_state_58 : decode cX7_state 58 = .ok (.getfield 10, 3) := by decide +kernel
theorem dX7_state_61 : decode cX7_state 61 = .ok (.invokevirtual 199, 3) := by decide +kernel
theorem dX7_state_64 : decode cX7_state 64 = .ok (.invokestatic 203, 3) := by decide +kernel
theorem dX7_state_67 : decode cX7_state 67 = .ok (.ireturn, 1) := by decide +kernel
theorem dX7_state_68 : decode cX7_state 68 = .ok (.aload_n 0, 1) := by decide +kernel
theorem dX7_state_69 : decode cX7_state 69 = .ok (.getfield 40, 3) := by decide +kernel
theorem dX7_state_72 : decode cX7_state 72 = .ok (.iload_n 2, 1) := by decide +kernel
theorem dX7_state_73 : decode cX7_state 73 = .ok (.aload_n 0, 1) := by decide +kernel
theorem dX7_state_74 : decode cX7_state 74 = .ok (.getfield 10, 3) := by decide +kernel
theorem dX7_state_77 : decode cX7_state 77 = .ok (.invokevirtual 199, 3) := by decide +kernel
theorem dX7_state_80 : decode cX7_state 80 = .ok (.invokestatic 208, 3) := by decide +kernel
theorem dX7_state_83 : decode cX7_state 83 = .ok (.ireturn, 1) := by decide +kernel
theorem dX7_state_84 : decode cX7_state 84 = .ok (.aload_n 0, 1) := by decide +kernel
theorem dX7_state_85 : decode cX7_state 85 = .ok (.getfield 40, 3) := by decide +kernel
theorem dX7_state_88 : decode cX7_state 88 = .ok (.iload_n 2, 1) := by decide +kernel
theorem dX7_state_89 : decode cX7_state 89 = .ok (.aload_n 0, 1) := by decide +kernel
theorem dX7_state_90 : decode cX7_state 90 = .ok (.getfield 10, 3) := by decide +kernel
theorem dX7_state_93 : decode cX7_state 93 = .ok (.invokevirtual 211, 3) := by decide +kernel
theorem dX7_state_96 : decode cX7_state 96 = .ok (.invokestatic 203, 3) := by decide +kernel
theorem dX7_state_99 : decode cX7_state 99 = .ok (.ireturn, 1) := by decide +kernel
theorem dX7_state_100 : decode cX7_state 100 = .ok (.aload_n 0, 1) := by decide +kernel
theorem dX7_state_101 : decode cX7_state 101 = .ok (.getfield 40, 3) := by decide +kernel
theorem dX7_state_104 : decode cX7_state 104 = .ok (.iload_n 2, 1) := by decide +kernel
theorem dX7_state_105 : decode cX7_state 105 = .ok (.aload_n 0, 1) := by decide +kernel
theorem dX7_state_106 : decode cX7_state 106 = .ok (.getfield 10, 3) := by decide +kernel
theorem dX7_state_109 : decode cX7_state 109 = .ok (.invokevirtual 211, 3) := by decide +kernel
theorem dX7_state_112 : decode cX7_state 112 = .ok (.invokestatic 208, 3) := by decide +kernel
theorem dX7_state_115 : decode cX7_state 115 = .ok (.ireturn, 1) := by decide +kernel
theorem dX7_state_116 : decode cX7_state 116 = .ok (.iload_n 2, 1) := by decide +kernel
theorem dX7_state_117 : decode cX7_state 117 = .ok (.invokestatic 203, 3) := by decide +kernel
theorem dX7_state_120 : decode cX7_state 120 = .ok (.ireturn, 1) := by decide +kernel
theorem dX7_state_121 : decode cX7_state 121 = .ok (.iconst (-1), 1) := by decide +kernel
theorem dX7_state_122 : decode cX7_state 122 = .ok (.ireturn, 1) := by decide +kernel
theorem dX7_weak_0 : decode cX7_weak 0 = .ok (.aload_n 0, 1) := by decide +kernel
theorem dX7_weak_1 : decode cX7_weak 1 = .ok (.getfield 40, 3) := by decide +kernel
theorem dX7_weak_4 : decode cX7_weak 4 = .ok (.aload_n 0, 1) := by decide +kernel
theorem dX7_weak_5 : decode cX7_weak 5 = .ok (.getfield 10, 3) := by decide +kernel
theorem dX7_weak_8 : decode cX7_weak 8 = .ok (.invokevirtual 214, 3) := by decide +kernel
theorem dX7_weak_11 : decode cX7_weak 11 = .ok (.ireturn, 1) := by decide +kernel
theorem dX7_cause_0 : decode cX7_cause 0 = .ok (.iload_n 1, 1) := by decide +kernel
theorem dX7_cause_1 : decode cX7_cause 1 = .ok (.iconst 1, 1) := by decide +kernel
theorem dX7_cause_2 : decode cX7_cause 2 = .ok (.ldc 217, 2) := by decide +kernel
theorem dX7_cause_4 : decode cX7_cause 4 = .ok (.invokestatic 58, 3) := by decide +kernel
theorem dX7_cause_7 : decode cX7_cause 7 = .ok (.ifCond .eq 14, 3) := by decide +kernel
theorem dX7_cause_10 : decode cX7_cause 10 = .ok (.aload_n 0, 1) := by decide +kernel
theorem dX7_cause_11 : decode cX7_cause 11 = .ok (.getfield 47, 3) := by decide +kernel
theorem dX7_cause_14 : decode cX7_cause 14 = .ok (.iload_n 1, 1) := by decide +kernel
theorem dX7_cause_15 : decode cX7_cause 15 = .ok (.invokevirtual 218, 3) := by decide +kernel
theorem dX7_cause_18 : decode cX7_cause 18 = .ok (.goto 4, 3) := by decide +kernel
theorem dX7_cause_21 : decode cX7_cause 21 = .ok (.iconst (-1), 1) := by decide +kernel
theorem dX7_cause_22 : decode cX7_cause 22 = .ok (.ireturn, 1) := by decide +kernel
theorem dX7_seen_0 : decode cX7_seen 0 = .ok (.iload_n 1, 1) := by decide +kernel
theorem dX7_seen_1 : decode cX7_seen 1 = .ok (.iconst 0, 1) := by decide +kernel
theorem dX7_seen_2 : decode cX7_seen 2 = .ok (.ldc 217, 2) := by decide +kernel
theorem dX7_seen_4 : decode cX7_seen 4 = .ok (.invokestatic 58, 3) := by decide +kernel
theorem dX7_seen_7 : decode cX7_seen 7 = .ok (.ifCond .ne 5, 3) := by decide +kernel
theorem dX7_seen_10 : decode cX7_seen 10 = .ok (.iconst (-1), 1) := by decide +kernel
theorem dX7_seen_11 : decode cX7_seen 11 = .ok (.ireturn, 1) := by decide +kernel
theorem dX7_seen_12 : decode cX7_seen 12 = .ok (.aload_n 0, 1) := by decide +kernel
theorem dX7_seen_13 : decode cX7_seen 13 = .ok (.getfield 47, 3) := by decide +kernel
theorem dX7_seen_16 : decode cX7_seen 16 = .ok (.getfield 220, 3) := by decide +kernel
theorem dX7_seen_19 : decode cX7_seen 19 = .ok (.istore_n 2, 1) := by decide +kernel
theorem dX7_seen_20 : decode cX7_seen 20 = .ok (.aload_n 0, 1) := by decide +kernel
theorem dX7_seen_21 : decode cX7_seen 21 = .ok (.getfield 47, 3) := by decide +kernel
theorem dX7_seen_24 : decode cX7_seen 24 = .ok (.iload_n 1, 1) := by decide +kernel
theorem dX7_seen_25 : decode cX7_seen 25 = .ok (.putfield 220, 3) := by decide +kernel
theorem dX7_seen_28 : decode cX7_seen 28 = .ok (.iload_n 2, 1) := by decide +kernel
theorem dX7_seen_29 : decode cX7_seen 29 = .ok (.ireturn, 1) := by decide +kernel
theorem dX7_roots_0 : decode cX7_roots 0 = .ok (.aload_n 0, 1) := by decide +kernel
theorem dX7_roots_1 : decode cX7_roots 1 = .ok (.getfield 47, 3) := by decide +kernel
theorem dX7_roots_4 : decode cX7_roots 4 = .ok (.invokevirtual 223, 3) := by decide +kernel
theorem dX7_roots_7 : decode cX7_roots 7 = .ok (.ireturn, 1) := by decide +kernel
theorem dX7_strange_0 : decode cX7_strange 0 = .ok (.aload_n 0, 1) := by decide +kernel
theorem dX7_strange_1 : decode cX7_strange 1 = .ok (.getfield 47, 3) := by decide +kernel
theorem dX7_strange_4 : decode cX7_strange 4 = .ok (.getfield 220, 3) := by decide +kernel
theorem dX7_strange_7 : decode cX7_strange 7 = .ok (.aload_n 0, 1) := by decide +kernel
theorem dX7_strange_8 : decode cX7_strange 8 = .ok (.getfield 47, 3) := by decide +kernel
theorem dX7_strange_11 : decode cX7_strange 11 = .ok (.aload_n 0, 1) := by decide +kernel
theorem dX7_strange_12 : decode cX7_strange 12 = .ok (.getfield 47, 3) := by decide +kernel
theorem dX7_strange_15 : decode cX7_strange 15 = .ok (.invokevirtual 226, 3) := by decide +kernel
theorem dX7_strange_18 : decode cX7_strange 18 = .ok (.invokevirtual 229, 3) := by decide +kernel
theorem dX7_strange_21 : decode cX7_strange 21 = .ok (.iconst (-1), 1) := by decide +kernel
theorem dX7_strange_22 : decode cX7_strange 22 = .ok (.ixor, 1) := by decide +kernel
theorem dX7_strange_23 : decode cX7_strange 23 = .ok (.iand, 1) := by decide +kernel
theorem dX7_strange_24 : decode cX7_strange 24 = .ok (.ireturn, 1) := by decide +kernel
theorem dX7_meter_0 : decode cX7_meter 0 = .ok (.iload_n 1, 1) := by decide +kernel
theorem dX7_meter_1 : decode cX7_meter 1 = .ok (.bipush (-4), 2) := by decide +kernel
theorem dX7_meter_3 : decode cX7_meter 3 = .ok (.if_icmp .eq 14, 3) := by decide +kernel
theorem dX7_meter_6 : decode cX7_meter 6 = .ok (.aload_n 0, 1) := by decide +kernel
theorem dX7_meter_7 : decode cX7_meter 7 = .ok (.getfield 54, 3) := by decide +kernel
theorem dX7_meter_10 : decode cX7_meter 10 = .ok (.iload_n 1, 1) := by decide +kernel
theorem dX7_meter_11 : decode cX7_meter 11 = .ok (.invokevirtual 232, 3) := by decide +kernel
theorem dX7_meter_14 : decode cX7_meter 14 = .ok (.ifCond .eq 14, 3) := by decide +kernel
theorem dX7_meter_17 : decode cX7_meter 17 = .ok (.aload_n 0, 1) := by decide +kernel
theorem dX7_meter_18 : decode cX7_meter 18 = .ok (.getfield 54, 3) := by decide +kernel
theorem dX7_meter_21 : decode cX7_meter 21 = .ok (.iload_n 1, 1) := by decide +kernel
theorem dX7_meter_22 : decode cX7_meter 22 = .ok (.invokevirtual 233, 3) := by decide +kernel
theorem dX7_meter_25 : decode cX7_meter 25 = .ok (.goto 4, 3) := by decide +kernel
theorem dX7_meter_28 : decode cX7_meter 28 = .ok (.iconst (-1), 1) := by decide +kernel
theorem dX7_meter_29 : decode cX7_meter 29 = .ok (.ireturn, 1) := by decide +kernel
theorem dX7_reads_0 : decode cX7_reads 0 = .ok (.aload_n 0, 1) := by decide +kernel
theorem dX7_reads_1 : decode cX7_reads 1 = .ok (.getfield 54, 3) := by decide +kernel
theorem dX7_reads_4 : decode cX7_reads 4 = .ok (.iload_n 1, 1) := by decide +kernel
theorem dX7_reads_5 : decode cX7_reads 5 = .ok (.invokevirtual 232, 3) := by decide +kernel
theorem dX7_reads_8 : decode cX7_reads 8 = .ok (.ifCond .eq 14, 3) := by decide +kernel
theorem dX7_reads_11 : decode cX7_reads 11 = .ok (.iload_n 2, 1) := by decide +kernel
theorem dX7_reads_12 : decode cX7_reads 12 = .ok (.ldc 234, 2) := by decide +kernel
theorem dX7_reads_14 : decode cX7_reads 14 = .ok (.ldc 235, 2) := by decide +kernel
theorem dX7_reads_16 : decode cX7_reads 16 = .ok (.invokestatic 58, 3) := by decide +kernel
theorem dX7_reads_19 : decode cX7_reads 19 = .ok (.ifCond .ne 5, 3) := by decide +kernel
theorem dX7_reads_22 : decode cX7_reads 22 = .ok (.iconst (-1), 1) := by decide +kernel
theorem dX7_reads_23 : decode cX7_reads 23 = .ok (.ireturn, 1) := by decide +kernel
theorem dX7_reads_24 : decode cX7_reads 24 = .ok (.aload_n 0, 1) := by decide +kernel
theorem dX7_reads_25 : decode cX7_reads 25 = .ok (.getfield 54, 3) := by decide +kernel
theorem dX7_reads_28 : decode cX7_reads 28 = .ok (.getfield 236, 3) := by decide +kernel
theorem dX7_reads_31 : decode cX7_reads 31 = .ok (.iload_n 1, 1) := by decide +kernel
theorem dX7_reads_32 : decode cX7_reads 32 = .ok (.iconst 1, 1) := by decide +kernel
theorem dX7_reads_33 : decode cX7_reads 33 = .ok (.bastore, 1) := by decide +kernel
theorem dX7_reads_34 : decode cX7_reads 34 = .ok (.aload_n 0, 1) := by decide +kernel
theorem dX7_reads_35 : decode cX7_reads 35 = .ok (.getfield 54, 3) := by decide +kernel
theorem dX7_reads_38 : decode cX7_reads 38 = .ok (.getfield 240, 3) := by decide +kernel
theorem dX7_reads_41 : decode cX7_reads 41 = .ok (.iload_n 1, 1) := by decide +kernel
theorem dX7_reads_42 : decode cX7_reads 42 = .ok (.iload_n 2, 1) := by decide +kernel
theorem dX7_reads_43 : decode cX7_reads 43 = .ok (.iastore, 1) := by decide +kernel
theorem dX7_reads_44 : decode cX7_reads 44 = .ok (.iconst 1, 1) := by decide +kernel
theorem dX7_reads_45 : decode cX7_reads 45 = .ok (.ireturn, 1) := by decide +kernel
theorem dX7_loses_0 : decode cX7_loses 0 = .ok (.aload_n 0, 1) := by decide +kernel
theorem dX7_loses_1 : decode cX7_loses 1 = .ok (.getfield 54, 3) := by decide +kernel
theorem dX7_loses_4 : decode cX7_loses 4 = .ok (.iload_n 1, 1) := by decide +kernel
theorem dX7_loses_5 : decode cX7_loses 5 = .ok (.invokevirtual 232, 3) := by decide +kernel
theorem dX7_loses_8 : decode cX7_loses 8 = .ok (.ifCond .ne 5, 3) := by decide +kernel
theorem dX7_loses_11 : decode cX7_loses 11 = .ok (.iconst (-1), 1) := by decide +kernel
theorem dX7_loses_12 : decode cX7_loses 12 = .ok (.ireturn, 1) := by decide +kernel
theorem dX7_loses_13 : decode cX7_loses 13 = .ok (.aload_n 0, 1) := by decide +kernel
theorem dX7_loses_14 : decode cX7_loses 14 = .ok (.getfield 54, 3) := by decide +kernel
theorem dX7_loses_17 : decode cX7_loses 17 = .ok (.getfield 236, 3) := by decide +kernel
theorem dX7_loses_20 : decode cX7_loses 20 = .ok (.iload_n 1, 1) := by decide +kernel
theorem dX7_loses_21 : decode cX7_loses 21 = .ok (.baload, 1) := by decide +kernel
theorem dX7_loses_22 : decode cX7_loses 22 = .ok (.ifCond .eq 7, 3) := by decide +kernel
theorem dX7_loses_25 : decode cX7_loses 25 = .ok (.iconst 1, 1) := by decide +kernel
theorem dX7_loses_26 : decode cX7_loses 26 = .ok (.goto 4, 3) := by decide +kernel
theorem dX7_loses_29 : decode cX7_loses 29 = .ok (.iconst 0, 1) := by decide +kernel
theorem dX7_loses_30 : decode cX7_loses 30 = .ok (.istore_n 2, 1) := by decide +kernel
theorem dX7_loses_31 : decode cX7_loses 31 = .ok (.aload_n 0, 1) := by decide +kernel
theorem dX7_loses_32 : decode cX7_loses 32 = .ok (.getfield 54, 3) := by decide +kernel
theorem dX7_loses_35 : decode cX7_loses 35 = .ok (.getfield 236, 3) := by decide +kernel
theorem dX7_loses_38 : decode cX7_loses 38 = .ok (.iload_n 1, 1) := by decide +kernel
theorem dX7_loses_39 : decode cX7_loses 39 = .ok (.iconst 0, 1) := by decide +kernel
theorem dX7_loses_40 : decode cX7_loses 40 = .ok (.bastore, 1) := by decide +kernel
theorem dX7_loses_41 : decode cX7_loses 41 = .ok (.iload_n 2, 1) := by decide +kernel
theorem dX7_loses_42 : decode cX7_loses 42 = .ok (.ireturn, 1) := by decide +kernel
theorem dX7_known_0 : decode cX7_known 0 = .ok (.aload_n 0, 1) := by decide +kernel
theorem dX7_known_1 : decode cX7_known 1 = .ok (.getfield 54, 3) := by decide +kernel
theorem dX7_known_4 : decode cX7_known 4 = .ok (.iload_n 1, 1) := by decide +kernel
theorem dX7_known_5 : decode cX7_known 5 = .ok (.invokevirtual 232, 3) := by decide +kernel
theorem dX7_known_8 : decode cX7_known 8 = .ok (.ifCond .ne 6, 3) := by decide +kernel
theorem dX7_known_11 : decode cX7_known 11 = .ok (.ldc 156, 2) := by decide +kernel
theorem dX7_known_13 : decode cX7_known 13 = .ok (.ireturn, 1) := by decide +kernel
theorem dX7_known_14 : decode cX7_known 14 = .ok (.aload_n 0, 1) := by decide +kernel
theorem dX7_known_15 : decode cX7_known 15 = .ok (.getfield 54, 3) := by decide +kernel
theorem dX7_known_18 : decode cX7_known 18 = .ok (.invokevirtual 243, 3) := by decide +kernel
theorem dX7_known_21 : decode cX7_known 21 = .ok (.aload_n 0, 1) := by decide +kernel
theorem dX7_known_22 : decode cX7_known 22 = .ok (.getfield 54, 3) := by decide +kernel
theorem dX7_known_25 : decode cX7_known 25 = .ok (.getfield 246, 3) := by decide +kernel
theorem dX7_known_28 : decode cX7_known 28 = .ok (.iload_n 1, 1) := by decide +kernel
theorem dX7_known_29 : decode cX7_known 29 = .ok (.baload, 1) := by decide +kernel
theorem dX7_known_30 : decode cX7_known 30 = .ok (.ifCond .eq 15, 3) := by decide +kernel
theorem dX7_known_33 : decode cX7_known 33 = .ok (.aload_n 0, 1) := by decide +kernel
theorem dX7_known_34 : decode cX7_known 34 = .ok (.getfield 54, 3) := by decide +kernel
theorem dX7_known_37 : decode cX7_known 37 = .ok (.getfield 249, 3) := by decide +kernel
theorem dX7_known_40 : decode cX7_known 40 = .ok (.iload_n 1, 1) := by decide +kernel
theorem dX7_known_41 : decode cX7_known 41 = .ok (.iaload, 1) := by decide +kernel
theorem dX7_known_42 : decode cX7_known 42 = .ok (.goto 5, 3) := by decide +kernel
theorem dX7_known_45 : decode cX7_known 45 = .ok (.ldc 156, 2) := by decide +kernel
theorem dX7_known_47 : decode cX7_known 47 = .ok (.ireturn, 1) := by decide +kernel
theorem dX7_quarrel_0 : decode cX7_quarrel 0 = .ok (.aload_n 0, 1) := by decide +kernel
theorem dX7_quarrel_1 : decode cX7_quarrel 1 = .ok (.getfield 54, 3) := by decide +kernel
theorem dX7_quarrel_4 : decode cX7_quarrel 4 = .ok (.invokevirtual 243, 3) := by decide +kernel
theorem dX7_quarrel_7 : decode cX7_quarrel 7 = .ok (.iconst 0, 1) := by decide +kernel
theorem dX7_quarrel_8 : decode cX7_quarrel 8 = .ok (.istore_n 1, 1) := by decide +kernel
theorem dX7_quarrel_9 : decode cX7_quarrel 9 = .ok (.iload_n 1, 1) := by decide +kernel
theorem dX7_quarrel_10 : decode cX7_quarrel 10 = .ok (.aload_n 0, 1) := by decide +kernel
theorem dX7_quarrel_11 : decode cX7_quarrel 11 = .ok (.getfield 54, 3) := by decide +kernel
theorem dX7_quarrel_14 : decode cX7_quarrel 14 = .ok (.getfield 252, 3) := by decide +kernel
theorem dX7_quarrel_17 : decode cX7_quarrel 17 = .ok (.if_icmp .ge 22, 3) := by decide +kernel
theorem dX7_quarrel_20 : decode cX7_quarrel 20 = .ok (.aload_n 0, 1) := by decide +kernel
theorem dX7_quarrel_21 : decode cX7_quarrel 21 = .ok (.getfield 54, 3) := by decide +kernel
theorem dX7_quarrel_24 : decode cX7_quarrel 24 = .ok (.iload_n 1, 1) := by decide +kernel
theorem dX7_quarrel_25 : decode cX7_quarrel 25 = .ok (.invokevirtual 254, 3) := by decide +kernel
theorem dX7_quarrel_28 : decode cX7_quarrel 28 = .ok (.ifCond .eq 5, 3) := by decide +kernel
theorem dX7_quarrel_31 : decode cX7_quarrel 31 = .ok (.iload_n 1, 1) := by decide +kernel
theorem dX7_quarrel_32 : decode cX7_quarrel 32 = .ok (.ireturn, 1) := by decide +kernel
theorem dX7_quarrel_33 : decode cX7_quarrel 33 = .ok (.iinc 1 1, 3) := by decide +kernel
theorem dX7_quarrel_36 : decode cX7_quarrel 36 = .ok (.goto (-27), 3) := by decide +kernel
theorem dX7_quarrel_39 : decode cX7_quarrel 39 = .ok (.bipush (-4), 2) := by decide +kernel
theorem dX7_quarrel_41 : decode cX7_quarrel 41 = .ok (.ireturn, 1) := by decide +kernel
theorem dX7_count_0 : decode cX7_count 0 = .ok (.iload_n 1, 1) := by decide +kernel
theorem dX7_count_1 : decode cX7_count 1 = .ok (.tableswitch 141 0 8 #[51, 59, 67, 75, 83, 91, 99, 125, 133], 51) := by decide +kernel
theorem dX7_count_52 : decode cX7_count 52 = .ok (.aload_n 0, 1) := by decide +kernel
theorem dX7_count_53 : decode cX7_count 53 = .ok (.getfield 10, 3) := by decide +kernel
theorem dX7_count_56 : decode cX7_count 56 = .ok (.getfield 105, 3) := by decide +kernel
theorem dX7_count_59 : decode cX7_count 59 = .ok (.ireturn, 1) := by decide +kernel
theorem dX7_count_60 : decode cX7_count 60 = .ok (.aload_n 0, 1) := by decide +kernel
theorem dX7_count_61 : decode cX7_count 61 = .ok (.getfield 40, 3) := by decide +kernel
theorem dX7_count_64 : decode cX7_count 64 = .ok (.getfield 257, 3) := by decide +kernel
theorem dX7_count_67 : decode cX7_count 67 = .ok (.ireturn, 1) := by decide +kernel
theorem dX7_count_68 : decode cX7_count 68 = .ok (.aload_n 0, 1) := by decide +kernel
theorem dX7_count_69 : decode cX7_count 69 = .ok (.getfield 26, 3) := by decide +kernel
theorem dX7_count_72 : decode cX7_count 72 = .ok (.getfield 168, 3) := by decide +kernel
theorem dX7_count_75 : decode cX7_count 75 = .ok (.ireturn, 1) := by decide +kernel
theorem dX7_count_76 : decode cX7_count 76 = .ok (.aload_n 0, 1) := by decide +kernel
theorem dX7_count_77 : decode cX7_count 77 = .ok (.getfield 47, 3) := by decide +kernel
theorem dX7_count_80 : decode cX7_count 80 = .ok (.getfield 259, 3) := by decide +kernel
theorem dX7_count_83 : decode cX7_count 83 = .ok (.ireturn, 1) := by decide +kernel
theorem dX7_count_84 : decode cX7_count 84 = .ok (.aload_n 0, 1) := by decide +kernel
theorem dX7_count_85 : decode cX7_count 85 = .ok (.getfield 54, 3) := by decide +kernel
theorem dX7_count_88 : decode cX7_count 88 = .ok (.getfield 252, 3) := by decide +kernel
theorem dX7_count_91 : decode cX7_count 91 = .ok (.ireturn, 1) := by decide +kernel
theorem dX7_count_92 : decode cX7_count 92 = .ok (.aload_n 0, 1) := by decide +kernel
theorem dX7_count_93 : decode cX7_count 93 = .ok (.getfield 54, 3) := by decide +kernel
theorem dX7_count_96 : decode cX7_count 96 = .ok (.invokevirtual 262, 3) := by decide +kernel
theorem dX7_count_99 : decode cX7_count 99 = .ok (.ireturn, 1) := by decide +kernel
theorem dX7_count_100 : decode cX7_count 100 = .ok (.aload_n 0, 1) := by decide +kernel
theorem dX7_count_101 : decode cX7_count 101 = .ok (.getfield 33, 3) := by decide +kernel
theorem dX7_count_104 : decode cX7_count 104 = .ok (.iconst 0, 1) := by decide +kernel
theorem dX7_count_105 : decode cX7_count 105 = .ok (.invokevirtual 87, 3) := by decide +kernel
theorem dX7_count_108 : decode cX7_count 108 = .ok (.ifCond .eq 8, 3) := by decide +kernel
theorem dX7_count_111 : decode cX7_count 111 = .ok (.bipush (-4), 2) := by decide +kernel
theorem dX7_count_113 : decode cX7_count 113 = .ok (.goto 12, 3) := by decide +kernel
theorem dX7_count_116 : decode cX7_count 116 = .ok (.aload_n 0, 1) := by decide +kernel
theorem dX7_count_117 : decode cX7_count 117 = .ok (.getfield 33, 3) := by decide +kernel
theorem dX7_count_120 : decode cX7_count 120 = .ok (.getfield 265, 3) := by decide +kernel
theorem dX7_count_123 : decode cX7_count 123 = .ok (.iconst 0, 1) := by decide +kernel
theorem dX7_count_124 : decode cX7_count 124 = .ok (.iaload, 1) := by decide +kernel
theorem dX7_count_125 : decode cX7_count 125 = .ok (.ireturn, 1) := by decide +kernel
theorem dX7_count_126 : decode cX7_count 126 = .ok (.aload_n 0, 1) := by decide +kernel
theorem dX7_count_127 : decode cX7_count 127 = .ok (.getfield 10, 3) := by decide +kernel
theorem dX7_count_130 : decode cX7_count 130 = .ok (.getfield 123, 3) := by decide +kernel
theorem dX7_count_133 : decode cX7_count 133 = .ok (.ireturn, 1) := by decide +kernel
theorem dX7_count_134 : decode cX7_count 134 = .ok (.aload_n 0, 1) := by decide +kernel
theorem dX7_count_135 : decode cX7_count 135 = .ok (.getfield 10, 3) := by decide +kernel
theorem dX7_count_138 : decode cX7_count 138 = .ok (.getfield 126, 3) := by decide +kernel
theorem dX7_count_141 : decode cX7_count 141 = .ok (.ireturn, 1) := by decide +kernel
theorem dX7_count_142 : decode cX7_count 142 = .ok (.iconst (-1), 1) := by decide +kernel
theorem dX7_count_143 : decode cX7_count 143 = .ok (.ireturn, 1) := by decide +kernel
theorem dX7_within_0 : decode cX7_within 0 = .ok (.iload_n 0, 1) := by decide +kernel
theorem dX7_within_1 : decode cX7_within 1 = .ok (.iload_n 1, 1) := by decide +kernel
theorem dX7_within_2 : decode cX7_within 2 = .ok (.if_icmp .lt 12, 3) := by decide +kernel
theorem dX7_within_5 : decode cX7_within 5 = .ok (.iload_n 0, 1) := by decide +kernel
theorem dX7_within_6 : decode cX7_within 6 = .ok (.iload_n 2, 1) := by decide +kernel
theorem dX7_within_7 : decode cX7_within 7 = .ok (.if_icmp .gt 7, 3) := by decide +kernel
theorem dX7_within_10 : decode cX7_within 10 = .ok (.iconst 1, 1) := by decide +kernel
theorem dX7_within_11 : decode cX7_within 11 = .ok (.goto 4, 3) := by decide +kernel
theorem dX7_within_14 : decode cX7_within 14 = .ok (.iconst 0, 1) := by decide +kernel
theorem dX7_within_15 : decode cX7_within 15 = .ok (.ireturn, 1) := by decide +kernel
theorem dX7_isAir_0 : decode cX7_isAir 0 = .ok (.iload_n 0, 1) := by decide +kernel
theorem dX7_isAir_1 : decode cX7_isAir 1 = .ok (.bipush 10, 2) := by decide +kernel
theorem dX7_isAir_3 : decode cX7_isAir 3 = .ok (.bipush 30, 2) := by decide +kernel
theorem dX7_isAir_5 : decode cX7_isAir 5 = .ok (.invokestatic 58, 3) := by decide +kernel
theorem dX7_isAir_8 : decode cX7_isAir 8 = .ok (.ireturn, 1) := by decide +kernel
theorem dX7_isFan_0 : decode cX7_isFan 0 = .ok (.iload_n 0, 1) := by decide +kernel
theorem dX7_isFan_1 : decode cX7_isFan 1 = .ok (.iconst 1, 1) := by decide +kernel
theorem dX7_isFan_2 : decode cX7_isFan 2 = .ok (.iconst 5, 1) := by decide +kernel
theorem dX7_isFan_3 : decode cX7_isFan 3 = .ok (.invokestatic 58, 3) := by decide +kernel
theorem dX7_isFan_6 : decode cX7_isFan 6 = .ok (.ireturn, 1) := by decide +kernel
theorem dX7_isLane_0 : decode cX7_isLane 0 = .ok (.iload_n 0, 1) := by decide +kernel
theorem dX7_isLane_1 : decode cX7_isLane 1 = .ok (.iconst 0, 1) := by decide +kernel
theorem dX7_isLane_2 : decode cX7_isLane 2 = .ok (.iconst 2, 1) := by decide +kernel
theorem dX7_isLane_3 : decode cX7_isLane 3 = .ok (.invokestatic 58, 3) := by decide +kernel
theorem dX7_isLane_6 : decode cX7_isLane 6 = .ok (.ireturn, 1) := by decide +kernel
theorem dX7_lowestBits_0 : decode cX7_lowestBits 0 = .ok (.iload_n 0, 1) := by decide +kernel
theorem dX7_lowestBits_1 : decode cX7_lowestBits 1 = .ok (.ifCond .ne 8, 3) := by decide +kernel
theorem dX7_lowestBits_4 : decode cX7_lowestBits 4 = .ok (.lload_n 1, 1) := by decide +kernel
theorem dX7_lowestBits_5 : decode cX7_lowestBits 5 = .ok (.l2i, 1) := by decide +kernel
theorem dX7_lowestBits_6 : decode cX7_lowestBits 6 = .ok (.i2b, 1) := by decide +kernel
theorem dX7_lowestBits_7 : decode cX7_lowestBits 7 = .ok (.i2l, 1) := by decide +kernel
theorem dX7_lowestBits_8 : decode cX7_lowestBits 8 = .ok (.lreturn, 1) := by decide +kernel
theorem dX7_lowestBits_9 : decode cX7_lowestBits 9 = .ok (.iload_n 0, 1) := by decide +kernel
theorem dX7_lowestBits_10 : decode cX7_lowestBits 10 = .ok (.iconst 1, 1) := by decide +kernel
theorem dX7_lowestBits_11 : decode cX7_lowestBits 11 = .ok (.if_icmp .ne 9, 3) := by decide +kernel
theorem dX7_lowestBits_14 : decode cX7_lowestBits 14 = .ok (.lload_n 1, 1) := by decide +kernel
theorem dX7_lowestBits_15 : decode cX7_lowestBits 15 = .ok (.l2i, 1) := by decide +kernel
theorem dX7_lowestBits_16 : decode cX7_lowestBits 16 = .ok (.i2l, 1) := by decide +kernel
theorem dX7_lowestBits_17 : decode cX7_lowestBits 17 = .ok (.goto 4, 3) := by decide +kernel
theorem dX7_lowestBits_20 : decode cX7_lowestBits 20 = .ok (.lload_n 1, 1) := by decide +kernel
theorem dX7_lowestBits_21 : decode cX7_lowestBits 21 = .ok (.lreturn, 1) := by decide +kernel
theorem dX7_divideDown_0 : decode cX7_divideDown 0 = .ok (.iload_n 1, 1) := by decide +kernel
theorem dX7_divideDown_1 : decode cX7_divideDown 1 = .ok (.iconst 1, 1) := by decide +kernel
theorem dX7_divideDown_2 : decode cX7_divideDown 2 = .ok (.if_icmp .ge 7, 3) := by decide +kernel
theorem dX7_divideDown_5 : decode cX7_divideDown 5 = .ok (.iconst 0, 1) := by decide +kernel
theorem dX7_divideDown_6 : decode cX7_divideDown 6 = .ok (.goto 6, 3) := by decide +kernel
theorem dX7_divideDown_9 : decode cX7_divideDown 9 = .ok (.iload_n 0, 1) := by decide +kernel
theorem dX7_divideDown_10 : decode cX7_divideDown 10 = .ok (.iload_n 1, 1) := by decide +kernel
theorem dX7_divideDown_11 : decode cX7_divideDown 11 = .ok (.idiv, 1) := by decide +kernel
theorem dX7_divideDown_12 : decode cX7_divideDown 12 = .ok (.ireturn, 1) := by decide +kernel
theorem dX7_divideUp_0 : decode cX7_divideUp 0 = .ok (.iload_n 0, 1) := by decide +kernel
theorem dX7_divideUp_1 : decode cX7_divideUp 1 = .ok (.iload_n 1, 1) := by decide +kernel
theorem dX7_divideUp_2 : decode cX7_divideUp 2 = .ok (.iadd, 1) := by decide +kernel
theorem dX7_divideUp_3 : decode cX7_divideUp 3 = .ok (.iconst 1, 1) := by decide +kernel
theorem dX7_divideUp_4 : decode cX7_divideUp 4 = .ok (.isub, 1) := by decide +kernel
theorem dX7_divideUp_5 : decode cX7_divideUp 5 = .ok (.iload_n 1, 1) := by decide +kernel
theorem dX7_divideUp_6 : decode cX7_divideUp 6 = .ok (.invokestatic 163, 3) := by decide +kernel
theorem dX7_divideUp_9 : decode cX7_divideUp 9 = .ok (.ireturn, 1) := by decide +kernel
theorem dX7_firstBit_0 : decode cX7_firstBit 0 = .ok (.iload_n 0, 1) := by decide +kernel
theorem dX7_firstBit_1 : decode cX7_firstBit 1 = .ok (.ifCond .ne 8, 3) := by decide +kernel
theorem dX7_firstBit_4 : decode cX7_firstBit 4 = .ok (.bipush (-4), 2) := by decide +kernel
theorem dX7_firstBit_6 : decode cX7_firstBit 6 = .ok (.goto 7, 3) := by decide +kernel
theorem dX7_firstBit_9 : decode cX7_firstBit 9 = .ok (.iload_n 0, 1) := by decide +kernel
theorem dX7_firstBit_10 : decode cX7_firstBit 10 = .ok (.invokestatic 268, 3) := by decide +kernel
theorem dX7_firstBit_13 : decode cX7_firstBit 13 = .ok (.ireturn, 1) := by decide +kernel
