theorem dX10_init_0 : decode cX10_init 0 = .ok (.aload_n 0, 1) := by decide +kernel
theorem dX10_init_1 : decode cX10_init 1 = .ok (.invokespecial 1, 3) := by decide +kernel
theorem dX10_init_4 : decode cX10_init 4 = .ok (.aload_n 0, 1) := by decide +kernel
theorem dX10_init_5 : decode cX10_init 5 = .ok (.bipush 8, 2) := by decide +kernel
theorem dX10_init_7 : decode cX10_init 7 = .ok (.anewarray 9, 3) := by decide +kernel
theorem dX10_init_10 : decode cX10_init 10 = .ok (.putfield 11, 3) := by decide +kernel
theorem dX10_init_13 : decode cX10_init 13 = .ok (.aload_n 0, 1) := by decide +kernel
theorem dX10_init_14 : decode cX10_init 14 = .ok (.bipush 10, 2) := by decide +kernel
theorem dX10_init_16 : decode cX10_init 16 = .ok (.anewarray 15, 3) := by decide +kernel
theorem dX10_init_19 : decode cX10_init 19 = .ok (.putfield 17, 3) := by decide +kernel
theorem dX10_init_22 : decode cX10_init 22 = .ok (.aload_n 0, 1) := by decide +kernel
theorem dX10_init_23 : decode cX10_init 23 = .ok (.new 21, 3) := by decide +kernel
theorem dX10_init_26 : decode cX10_init 26 = .ok (.dup, 1) := by decide +kernel
theorem dX10_init_27 : decode cX10_init 27 = .ok (.invokespecial 23, 3) := by decide +kernel
theorem dX10_init_30 : decode cX10_init 30 = .ok (.putfield 24, 3) := by decide +kernel
theorem dX10_init_33 : decode cX10_init 33 = .ok (.aload_n 0, 1) := by decide +kernel
theorem dX10_init_34 : decode cX10_init 34 = .ok (.new 28, 3) := by decide +kernel
theorem dX10_init_37 : decode cX10_init 37 = .ok (.dup, 1) := by decide +kernel
theorem dX10_init_38 : decode cX10_init 38 = .ok (.invokespecial 30, 3) := by decide +kernel
theorem dX10_init_41 : decode cX10_init 41 = .ok (.putfield 31, 3) := by decide +kernel
theorem dX10_init_44 : decode cX10_init 44 = .ok (.aload_n 0, 1) := by decide +kernel
theorem dX10_init_45 : decode cX10_init 45 = .ok (.new 35, 3) := by decide +kernel
theorem dX10_init_48 : decode cX10_init 48 = .ok (.dup, 1) := by decide +kernel
theorem dX10_init_49 : decode cX10_init 49 = .ok (.invokespecial 37, 3) := by decide +kernel
theorem dX10_init_52 : decode cX10_init 52 = .ok (.putfield 38, 3) := by decide +kernel
theorem dX10_init_55 : decode cX10_init 55 = .ok (.aload_n 0, 1) := by decide +kernel
theorem dX10_init_56 : decode cX10_init 56 = .ok (.new 42, 3) := by decide +kernel
theorem dX10_init_59 : decode cX10_init 59 = .ok (.dup, 1) := by decide +kernel
theorem dX10_init_60 : decode cX10_init 60 = .ok (.invokespecial 44, 3) := by decide +kernel
theorem dX10_init_63 : decode cX10_init 63 = .ok (.putfield 45, 3) := by decide +kernel
theorem dX10_init_66 : decode cX10_init 66 = .ok (.aload_n 0, 1) := by decide +kernel
theorem dX10_init_67 : decode cX10_init 67 = .ok (.iconst 0, 1) := by decide +kernel
theorem dX10_init_68 : decode cX10_init 68 = .ok (.putfield 49, 3) := by decide +kernel
theorem dX10_init_71 : decode cX10_init 71 = .ok (.return_, 1) := by decide +kernel
theorem dX10_sheet_0 : decode cX10_sheet 0 = .ok (.iload_n 1, 1) := by decide +kernel
theorem dX10_sheet_1 : decode cX10_sheet 1 = .ok (.bipush 8, 2) := by decide +kernel
theorem dX10_sheet_3 : decode cX10_sheet 3 = .ok (.invokestatic 53, 3) := by decide +kernel
theorem dX10_sheet_6 : decode cX10_sheet 6 = .ok (.ifCond .eq 18, 3) := by decide +kernel
theorem dX10_sheet_9 : decode cX10_sheet 9 = .ok (.iload_n 2, 1) := by decide +kernel
theorem dX10_sheet_10 : decode cX10_sheet 10 = .ok (.iconst 3, 1) := by decide +kernel
theorem dX10_sheet_11 : decode cX10_sheet 11 = .ok (.invokestatic 53, 3) := by decide +kernel
theorem dX10_sheet_14 : decode cX10_sheet 14 = .ok (.ifCond .eq 10, 3) := by decide +kernel
theorem dX10_sheet_17 : decode cX10_sheet 17 = .ok (.iload_n 3, 1) := by decide +kernel
theorem dX10_sheet_18 : decode cX10_sheet 18 = .ok (.sipush 144, 3) := by decide +kernel
theorem dX10_sheet_21 : decode cX10_sheet 21 = .ok (.if_icmp .le 6, 3) := by decide +kernel
theorem dX10_sheet_24 : decode cX10_sheet 24 = .ok (.ldc 57, 2) := by decide +kernel
theorem dX10_sheet_26 : decode cX10_sheet 26 = .ok (.ireturn, 1) := by decide +kernel
theorem dX10_sheet_27 : decode cX10_sheet 27 = .ok (.iload_n 3, 1) := by decide +kernel
theorem dX10_sheet_28 : decode cX10_sheet 28 = .ok (.ifCond .ge 9, 3) := by decide +kernel
theorem dX10_sheet_31 : decode cX10_sheet 31 = .ok (.aload_n 0, 1) := by decide +kernel
theorem dX10_sheet_32 : decode cX10_sheet 32 = .ok (.iconst 4, 1) := by decide +kernel
theorem dX10_sheet_33 : decode cX10_sheet 33 = .ok (.invokevirtual 58, 3) := by decide +kernel
theorem dX10_sheet_36 : decode cX10_sheet 36 = .ok (.ireturn, 1) := by decide +kernel
theorem dX10_sheet_37 : decode cX10_sheet 37 = .ok (.aload_n 0, 1) := by decide +kernel
theorem dX10_sheet_38 : decode cX10_sheet 38 = .ok (.getfield 11, 3) := by decide +kernel
theorem dX10_sheet_41 : decode cX10_sheet 41 = .ok (.iload_n 1, 1) := by decide +kernel
theorem dX10_sheet_42 : decode cX10_sheet 42 = .ok (.new 9, 3) := by decide +kernel
theorem dX10_sheet_45 : decode cX10_sheet 45 = .ok (.dup, 1) := by decide +kernel
theorem dX10_sheet_46 : decode cX10_sheet 46 = .ok (.iload_n 2, 1) := by decide +kernel
theorem dX10_sheet_47 : decode cX10_sheet 47 = .ok (.iload_n 3, 1) := by decide +kernel
theorem dX10_sheet_48 : decode cX10_sheet 48 = .ok (.invokespecial 62, 3) := by decide +kernel
theorem dX10_sheet_51 : decode cX10_sheet 51 = .ok (.aastore, 1) := by decide +kernel
theorem dX10_sheet_52 : decode cX10_sheet 52 = .ok (.aload_n 0, 1) := by decide +kernel
theorem dX10_sheet_53 : decode cX10_sheet 53 = .ok (.iload_n 3, 1) := by decide +kernel
theorem dX10_sheet_54 : decode cX10_sheet 54 = .ok (.invokevirtual 65, 3) := by decide +kernel
theorem dX10_sheet_57 : decode cX10_sheet 57 = .ok (.ireturn, 1) := by decide +kernel
theorem dX10_set_0 : decode cX10_set 0 = .ok (.iload_n 1, 1) := by decide +kernel
theorem dX10_set_1 : decode cX10_set 1 = .ok (.bipush 8, 2) := by decide +kernel
theorem dX10_set_3 : decode cX10_set 3 = .ok (.invokestatic 53, 3) := by decide +kernel
theorem dX10_set_6 : decode cX10_set 6 = .ok (.ifCond .ne 7, 3) := by decide +kernel
theorem dX10_set_9 : decode cX10_set 9 = .ok (.ldc2_w 68, 3) := by decide +kernel
theorem dX10_set_12 : decode cX10_set 12 = .ok (.lreturn, 1) := by decide +kernel
theorem dX10_set_13 : decode cX10_set 13 = .ok (.aload_n 0, 1) := by decide +kernel
theorem dX10_set_14 : decode cX10_set 14 = .ok (.getfield 11, 3) := by decide +kernel
theorem dX10_set_17 : decode cX10_set 17 = .ok (.iload_n 1, 1) := by decide +kernel
theorem dX10_set_18 : decode cX10_set 18 = .ok (.aaload, 1) := by decide +kernel
theorem dX10_set_19 : decode cX10_set 19 = .ok (.astore 5, 2) := by decide +kernel
theorem dX10_set_21 : decode cX10_set 21 = .ok (.aload 5, 2) := by decide +kernel
theorem dX10_set_23 : decode cX10_set 23 = .ok (.ifnonnull 10, 3) := by decide +kernel
theorem dX10_set_26 : decode cX10_set 26 = .ok (.aload_n 0, 1) := by decide +kernel
theorem dX10_set_27 : decode cX10_set 27 = .ok (.iconst 1, 1) := by decide +kernel
theorem dX10_set_28 : decode cX10_set 28 = .ok (.invokevirtual 58, 3) := by decide +kernel
theorem dX10_set_31 : decode cX10_set 31 = .ok (.i2l, 1) := by decide +kernel
theorem dX10_set_32 : decode cX10_set 32 = .ok (.lreturn, 1) := by decide +kernel
theorem dX10_set_33 : decode cX10_set 33 = .ok (.aload 5, 2) := by decide +kernel
theorem dX10_set_35 : decode cX10_set 35 = .ok (.iload_n 2, 1) := by decide +kernel
theorem dX10_set_36 : decode cX10_set 36 = .ok (.iconst 1, 1) := by decide +kernel
theorem dX10_set_37 : decode cX10_set 37 = .ok (.invokevirtual 70, 3) := by decide +kernel
theorem dX10_set_40 : decode cX10_set 40 = .ok (.ifCond .ne 10, 3) := by decide +kernel
theorem dX10_set_43 : decode cX10_set 43 = .ok (.aload_n 0, 1) := by decide +kernel
theorem dX10_set_44 : decode cX10_set 44 = .ok (.iconst 2, 1) := by decide +kernel
theorem dX10_set_45 : decode cX10_set 45 = .ok (.invokevirtual 58, 3) := by decide +kernel
theorem dX10_set_48 : decode cX10_set 48 = .ok (.i2l, 1) := by decide +kernel
theorem dX10_set_49 : decode cX10_set 49 = .ok (.lreturn, 1) := by decide +kernel
theorem dX10_set_50 : decode cX10_set 50 = .ok (.aload_n 0, 1) := by decide +kernel
theorem dX10_set_51 : decode cX10_set 51 = .ok (.iconst 0, 1) := by decide +kernel
theorem dX10_set_52 : decode cX10_set 52 = .ok (.putfield 49, 3) := by decide +kernel
theorem dX10_set_55 : decode cX10_set 55 = .ok (.aload 5, 2) := by decide +kernel
theorem dX10_set_57 : decode cX10_set 57 = .ok (.iload_n 2, 1) := by decide +kernel
theorem dX10_set_58 : decode cX10_set 58 = .ok (.lload_n 3, 1) := by decide +kernel
theorem dX10_set_59 : decode cX10_set 59 = .ok (.invokevirtual 73, 3) := by decide +kernel
theorem dX10_set_62 : decode cX10_set 62 = .ok (.lreturn, 1) := by decide +kernel
theorem dX10_copy_0 : decode cX10_copy 0 = .ok (.iload_n 1, 1) := by decide +kernel
theorem dX10_copy_1 : decode cX10_copy 1 = .ok (.bipush 8, 2) := by decide +kernel
theorem dX10_copy_3 : decode cX10_copy 3 = .ok (.invokestatic 53, 3) := by decide +kernel
theorem dX10_copy_6 : decode cX10_copy 6 = .ok (.ifCond .eq 12, 3) := by decide +kernel
theorem dX10_copy_9 : decode cX10_copy 9 = .ok (.iload_n 3, 1) := by decide +kernel
theorem dX10_copy_10 : decode cX10_copy 10 = .ok (.bipush 8, 2) := by decide +kernel
theorem dX10_copy_12 : decode cX10_copy 12 = .ok (.invokestatic 53, 3) := by decide +kernel
theorem dX10_copy_15 : decode cX10_copy 15 = .ok (.ifCond .ne 6, 3) := by decide +kernel
theorem dX10_copy_18 : decode cX10_copy 18 = .ok (.ldc 57, 2) := by decide +kernel
theorem dX10_copy_20 : decode cX10_copy 20 = .ok (.ireturn, 1) := by decide +kernel
theorem dX10_copy_21 : decode cX10_copy 21 = .ok (.aload_n 0, 1) := by decide +kernel
theorem dX10_copy_22 : decode cX10_copy 22 = .ok (.getfield 11, 3) := by decide +kernel
theorem dX10_copy_25 : decode cX10_copy 25 = .ok (.iload_n 1, 1) := by decide +kernel
theorem dX10_copy_26 : decode cX10_copy 26 = .ok (.aaload, 1) := by decide +kernel
theorem dX10_copy_27 : decode cX10_copy 27 = .ok (.astore 6, 2) := by decide +kernel
theorem dX10_copy_29 : decode cX10_copy 29 = .ok (.aload_n 0, 1) := by decide +kernel
theorem dX10_copy_30 : decode cX10_copy 30 = .ok (.getfield 11, 3) := by decide +kernel
theorem dX10_copy_33 : decode cX10_copy 33 = .ok (.iload_n 3, 1) := by decide +kernel
theorem dX10_copy_34 : decode cX10_copy 34 = .ok (.aaload, 1) := by decide +kernel
theorem dX10_copy_35 : decode cX10_copy 35 = .ok (.astore 7, 2) := by decide +kernel
theorem dX10_copy_37 : decode cX10_copy 37 = .ok (.aload 6, 2) := by decide +kernel
theorem dX10_copy_39 : decode cX10_copy 39 = .ok (.ifnull 8, 3) := by decide +kernel
theorem dX10_copy_42 : decode cX10_copy 42 = .ok (.aload 7, 2) := by decide +kernel
theorem dX10_copy_44 : decode cX10_copy 44 = .ok (.ifnonnull 9, 3) := by decide +kernel
theorem dX10_copy_47 : decode cX10_copy 47 = .ok (.aload_n 0, 1) := by decide +kernel
theorem dX10_copy_48 : decode cX10_copy 48 = .ok (.iconst 1, 1) := by decide +kernel
theorem dX10_copy_49 : decode cX10_copy 49 = .ok (.invokevirtual 58, 3) := by decide +kernel
theorem dX10_copy_52 : decode cX10_copy 52 = .ok (.ireturn, 1) := by decide +kernel
theorem dX10_copy_53 : decode cX10_copy 53 = .ok (.aload 6, 2) := by decide +kernel
theorem dX10_copy_55 : decode cX10_copy 55 = .ok (.getfield 77, 3) := by decide +kernel
theorem dX10_copy_58 : decode cX10_copy 58 = .ok (.aload 7, 2) := by decide +kernel
theorem dX10_copy_60 : decode cX10_copy 60 = .ok (.getfield 77, 3) := by decide +kernel
theorem dX10_copy_63 : decode cX10_copy 63 = .ok (.if_icmp .eq 9, 3) := by decide +kernel
theorem dX10_copy_66 : decode cX10_copy 66 = .ok (.aload_n 0, 1) := by decide +kernel
theorem dX10_copy_67 : decode cX10_copy 67 = .ok (.iconst 5, 1) := by decide +kernel
theorem dX10_copy_68 : decode cX10_copy 68 = .ok (.invokevirtual 58, 3) := by decide +kernel
theorem dX10_copy_71 : decode cX10_copy 71 = .ok (.ireturn, 1) := by decide +kernel
theorem dX10_copy_72 : decode cX10_copy 72 = .ok (.aload 6, 2) := by decide +kernel
theorem dX10_copy_74 : decode cX10_copy 74 = .ok (.iload_n 2, 1) := by decide +kernel
theorem dX10_copy_75 : decode cX10_copy 75 = .ok (.iload 5, 2) := by decide +kernel
theorem dX10_copy_77 : decode cX10_copy 77 = .ok (.invokevirtual 70, 3) := by decide +kernel
theorem dX10_copy_80 : decode cX10_copy 80 = .ok (.ifCond .eq 15, 3) := by decide +kernel
theorem dX10_copy_83 : decode cX10_copy 83 = .ok (.aload 7, 2) := by decide +kernel
theorem dX10_copy_85 : decode cX10_copy 85 = .ok (.iload 4, 2) := by decide +kernel
theorem dX10_copy_87 : decode cX10_copy 87 = .ok (.iload 5, 2) := by decide +kernel
theorem dX10_copy_89 : decode cX10_copy 89 = .ok (.invokevirtual 70, 3) := by decide +kernel
theorem dX10_copy_92 : decode cX10_copy 92 = .ok (.ifCond .ne 9, 3) := by decide +kernel
theorem dX10_copy_95 : decode cX10_copy 95 = .ok (.aload_n 0, 1) := by decide +kernel
theorem dX10_copy_96 : decode cX10_copy 96 = .ok (.iconst 2, 1) := by decide +kernel
theorem dX10_copy_97 : decode cX10_copy 97 = .ok (.invokevirtual 58, 3) := by decide +kernel
theorem dX10_copy_100 : decode cX10_copy 100 = .ok (.ireturn, 1) := by decide +kernel
theorem dX10_copy_101 : decode cX10_copy 101 = .ok (.aload 6, 2) := by decide +kernel
theorem dX10_copy_103 : decode cX10_copy 103 = .ok (.getfield 80, 3) := by decide +kernel
theorem dX10_copy_106 : decode cX10_copy 106 = .ok (.iload_n 2, 1) := by decide +kernel
theorem dX10_copy_107 : decode cX10_copy 107 = .ok (.aload 7, 2) := by decide +kernel
theorem dX10_copy_109 : decode cX10_copy 109 = .ok (.getfield 80, 3) := by decide +kernel
theorem dX10_copy_112 : decode cX10_copy 112 = .ok (.iload 4, 2) := by decide +kernel
theorem dX10_copy_114 : decode cX10_copy 114 = .ok (.iload 5, 2) := by decide +kernel
theorem dX10_copy_116 : decode cX10_copy 116 = .ok (.invokestatic 84, 3) := by decide +kernel
theorem dX10_copy_119 : decode cX10_copy 119 = .ok (.aload_n 0, 1) := by decide +kernel
theorem dX10_copy_120 : decode cX10_copy 120 = .ok (.iload 5, 2) := by decide +kernel
theorem dX10_copy_122 : decode cX10_copy 122 = .ok (.invokevirtual 65, 3) := by decide +kernel
theorem dX10_copy_125 : decode cX10_copy 125 = .ok (.ireturn, 1) := by decide +kernel
theorem dX10_drop_0 : decode cX10_drop 0 = .ok (.iload_n 1, 1) := by decide +kernel
theorem dX10_drop_1 : decode cX10_drop 1 = .ok (.bipush 8, 2) := by decide +kernel
theorem dX10_drop_3 : decode cX10_drop 3 = .ok (.invokestatic 53, 3) := by decide +kernel
theorem dX10_drop_6 : decode cX10_drop 6 = .ok (.ifCond .ne 6, 3) := by decide +kernel
theorem dX10_drop_9 : decode cX10_drop 9 = .ok (.ldc 57, 2) := by decide +kernel
theorem dX10_drop_11 : decode cX10_drop 11 = .ok (.ireturn, 1) := by decide +kernel
theorem dX10_drop_12 : decode cX10_drop 12 = .ok (.aload_n 0, 1) := by decide +kernel
theorem dX10_drop_13 : decode cX10_drop 13 = .ok (.getfield 11, 3) := by decide +kernel
theorem dX10_drop_16 : decode cX10_drop 16 = .ok (.iload_n 1, 1) := by decide +kernel
theorem dX10_drop_17 : decode cX10_drop 17 = .ok (.aaload, 1) := by decide +kernel
theorem dX10_drop_18 : decode cX10_drop 18 = .ok (.astore_n 2, 1) := by decide +kernel
theorem dX10_drop_19 : decode cX10_drop 19 = .ok (.aload_n 2, 1) := by decide +kernel
theorem dX10_drop_20 : decode cX10_drop 20 = .ok (.ifnonnull 9, 3) := by decide +kernel
theorem dX10_drop_23 : decode cX10_drop 23 = .ok (.aload_n 0, 1) := by decide +kernel
theorem dX10_drop_24 : decode cX10_drop 24 = .ok (.iconst 1, 1) := by decide +kernel
theorem dX10_drop_25 : decode cX10_drop 25 = .ok (.invokevirtual 58, 3) := by decide +kernel
theorem dX10_drop_28 : decode cX10_drop 28 = .ok (.ireturn, 1) := by decide +kernel
theorem dX10_drop_29 : decode cX10_drop 29 = .ok (.aload_n 0, 1) := by decide +kernel
theorem dX10_drop_30 : decode cX10_drop 30 = .ok (.getfield 11, 3) := by decide +kernel
theorem dX10_drop_33 : decode cX10_drop 33 = .ok (.iload_n 1, 1) := by decide +kernel
theorem dX10_drop_34 : decode cX10_drop 34 = .ok (.aconst_null, 1) := by decide +kernel
theorem dX10_drop_35 : decode cX10_drop 35 = .ok (.aastore, 1) := by decide +kernel
theorem dX10_drop_36 : decode cX10_drop 36 = .ok (.aload_n 0, 1) := by decide +kernel
theorem dX10_drop_37 : decode cX10_drop 37 = .ok (.aload_n 2, 1) := by decide +kernel
theorem dX10_drop_38 : decode cX10_drop 38 = .ok (.getfield 80, 3) := by decide +kernel
theorem dX10_drop_41 : decode cX10_drop 41 = .ok (.arraylength, 1) := by decide +kernel
theorem dX10_drop_42 : decode cX10_drop 42 = .ok (.invokevirtual 65, 3) := by decide +kernel
theorem dX10_drop_45 : decode cX10_drop 45 = .ok (.ireturn, 1) := by decide +kernel
theorem dX10_part_0 : decode cX10_part 0 = .ok (.iload_n 1, 1) := by decide +kernel
theorem dX10_part_1 : decode cX10_part 1 = .ok (.bipush 10, 2) := by decide +kernel
theorem dX10_part_3 : decode cX10_part 3 = .ok (.invokestatic 53, 3) := by decide +kernel
theorem dX10_part_6 : decode cX10_part 6 = .ok (.ifCond .eq 12, 3) := by decide +kernel
theorem dX10_part_9 : decode cX10_part 9 = .ok (.iload_n 2, 1) := by decide +kernel
theorem dX10_part_10 : decode cX10_part 10 = .ok (.bipush 8, 2) := by decide +kernel
theorem dX10_part_12 : decode cX10_part 12 = .ok (.invokestatic 53, 3) := by decide +kernel
theorem dX10_part_15 : decode cX10_part 15 = .ok (.ifCond .ne 6, 3) := by decide +kernel
theorem dX10_part_18 : decode cX10_part 18 = .ok (.ldc 57, 2) := by decide +kernel
theorem dX10_part_20 : decode cX10_part 20 = .ok (.ireturn, 1) := by decide +kernel
theorem dX10_part_21 : decode cX10_part 21 = .ok (.iload 4, 2) := by decide +kernel
theorem dX10_part_23 : decode cX10_part 23 = .ok (.iconst 1, 1) := by decide +kernel
theorem dX10_part_24 : decode cX10_part 24 = .ok (.bipush 12, 2) := by decide +kernel
theorem dX10_part_26 : decode cX10_part 26 = .ok (.invokestatic 90, 3) := by decide +kernel
theorem dX10_part_29 : decode cX10_part 29 = .ok (.ifCond .eq 14, 3) := by decide +kernel
theorem dX10_part_32 : decode cX10_part 32 = .ok (.iload 5, 2) := by decide +kernel
theorem dX10_part_34 : decode cX10_part 34 = .ok (.iconst 1, 1) := by decide +kernel
theorem dX10_part_35 : decode cX10_part 35 = .ok (.bipush 12, 2) := by decide +kernel
theorem dX10_part_37 : decode cX10_part 37 = .ok (.invokestatic 90, 3) := by decide +kernel
theorem dX10_part_40 : decode cX10_part 40 = .ok (.ifCond .ne 6, 3) := by decide +kernel
theorem dX10_part_43 : decode cX10_part 43 = .ok (.ldc 57, 2) := by decide +kernel
theorem dX10_part_45 : decode cX10_part 45 = .ok (.ireturn, 1) := by decide +kernel
theorem dX10_part_46 : decode cX10_part 46 = .ok (.aload_n 0, 1) := by decide +kernel
theorem dX10_part_47 : decode cX10_part 47 = .ok (.getfield 38, 3) := by decide +kernel
theorem dX10_part_50 : decode cX10_part 50 = .ok (.aload_n 0, 1) := by decide +kernel
theorem dX10_part_51 : decode cX10_part 51 = .ok (.getfield 17, 3) := by decide +kernel
theorem dX10_part_54 : decode cX10_part 54 = .ok (.iload_n 1, 1) := by decide +kernel
theorem dX10_part_55 : decode cX10_part 55 = .ok (.aaload, 1) := by decide +kernel
theorem dX10_part_56 : decode cX10_part 56 = .ok (.invokevirtual 94, 3) := by decide +kernel
theorem dX10_part_59 : decode cX10_part 59 = .ok (.ifCond .eq 6, 3) := by decide +kernel
theorem dX10_part_62 : decode cX10_part 62 = .ok (.ldc 98, 2) := by decide +kernel
theorem dX10_part_64 : decode cX10_part 64 = .ok (.ireturn, 1) := by decide +kernel
theorem dX10_part_65 : decode cX10_part 65 = .ok (.aload_n 0, 1) := by decide +kernel
theorem dX10_part_66 : decode cX10_part 66 = .ok (.getfield 11, 3) := by decide +kernel
theorem dX10_part_69 : decode cX10_part 69 = .ok (.iload_n 2, 1) := by decide +kernel
theorem dX10_part_70 : decode cX10_part 70 = .ok (.aaload, 1) := by decide +kernel
theorem dX10_part_71 : decode cX10_part 71 = .ok (.astore 6, 2) := by decide +kernel
theorem dX10_part_73 : decode cX10_part 73 = .ok (.aload 6, 2) := by decide +kernel
theorem dX10_part_75 : decode cX10_part 75 = .ok (.ifnonnull 9, 3) := by decide +kernel
theorem dX10_part_78 : decode cX10_part 78 = .ok (.aload_n 0, 1) := by decide +kernel
theorem dX10_part_79 : decode cX10_part 79 = .ok (.iconst 1, 1) := by decide +kernel
theorem dX10_part_80 : decode cX10_part 80 = .ok (.invokevirtual 58, 3) := by decide +kernel
theorem dX10_part_83 : decode cX10_part 83 = .ok (.ireturn, 1) := by decide +kernel
theorem dX10_part_84 : decode cX10_part 84 = .ok (.aload 6, 2) := by decide +kernel
theorem dX10_part_86 : decode cX10_part 86 = .ok (.iload_n 3, 1) := by decide +kernel
theorem dX10_part_87 : decode cX10_part 87 = .ok (.iload 4, 2) := by decide +kernel
theorem dX10_part_89 : decode cX10_part 89 = .ok (.iload 5, 2) := by decide +kernel
theorem dX10_part_91 : decode cX10_part 91 = .ok (.imul, 1) := by decide +kernel
theorem dX10_part_92 : decode cX10_part 92 = .ok (.invokevirtual 70, 3) := by decide +kernel
theorem dX10_part_95 : decode cX10_part 95 = .ok (.ifCond .ne 9, 3) := by decide +kernel
theorem dX10_part_98 : decode cX10_part 98 = .ok (.aload_n 0, 1) := by decide +kernel
theorem dX10_part_99 : decode cX10_part 99 = .ok (.iconst 2, 1) := by decide +kernel
theorem dX10_part_100 : decode cX10_part 100 = .ok (.invokevirtual 58, 3) := by decide +kernel
theorem dX10_part_103 : decode cX10_part 103 = .ok (.ireturn, 1) := by decide +kernel
theorem dX10_part_104 : decode cX10_part 104 = .ok (.aload 6, 2) := by decide +kernel
theorem dX10_part_106 : decode cX10_part 106 = .ok (.iload_n 3, 1) := by decide +kernel
theorem dX10_part_107 : decode cX10_part 107 = .ok (.iload 4, 2) := by decide +kernel
theorem dX10_part_109 : decode cX10_part 109 = .ok (.iload 5, 2) := by decide +kernel
theorem dX10_part_111 : decode cX10_part 111 = .ok (.imul, 1) := by decide +kernel
theorem dX10_part_112 : decode cX10_part 112 = .ok (.bipush 9, 2) := by decide +kernel
theorem dX10_part_114 : decode cX10_part 114 = .ok (.invokevirtual 99, 3) := by decide +kernel
theorem dX10_part_117 : decode cX10_part 117 = .ok (.ifCond .eq 17, 3) := by decide +kernel
theorem dX10_part_120 : decode cX10_part 120 = .ok (.aload 6, 2) := by decide +kernel
theorem dX10_part_122 : decode cX10_part 122 = .ok (.iload_n 3, 1) := by decide +kernel
theorem dX10_part_123 : decode cX10_part 123 = .ok (.iload 4, 2) := by decide +kernel
theorem dX10_part_125 : decode cX10_part 125 = .ok (.iload 5, 2) := by decide +kernel
theorem dX10_part_127 : decode cX10_part 127 = .ok (.imul, 1) := by decide +kernel
theorem dX10_part_128 : decode cX10_part 128 = .ok (.invokevirtual 102, 3) := by decide +kernel
theorem dX10_part_131 : decode cX10_part 131 = .ok (.ifCond .ne 6, 3) := by decide +kernel
theorem dX10_part_134 : decode cX10_part 134 = .ok (.ldc 57, 2) := by decide +kernel
theorem dX10_part_136 : decode cX10_part 136 = .ok (.ireturn, 1) := by decide +kernel
theorem dX10_part_137 : decode cX10_part 137 = .ok (.aload_n 0, 1) := by decide +kernel
theorem dX10_part_138 : decode cX10_part 138 = .ok (.aload_n 0, 1) := by decide +kernel
theorem dX10_part_139 : decode cX10_part 139 = .ok (.iload_n 1, 1) := by decide +kernel
theorem dX10_part_140 : decode cX10_part 140 = .ok (.iload 4, 2) := by decide +kernel
theorem dX10_part_142 : decode cX10_part 142 = .ok (.iload 5, 2) := by decide +kernel
theorem dX10_part_144 : decode cX10_part 144 = .ok (.aload 6, 2) := by decide +kernel
theorem dX10_part_146 : decode cX10_part 146 = .ok (.iload_n 3, 1) := by decide +kernel
theorem dX10_part_147 : decode cX10_part 147 = .ok (.iload 4, 2) := by decide +kernel
theorem dX10_part_149 : decode cX10_part 149 = .ok (.iload 5, 2) := by decide +kernel
theorem dX10_part_151 : decode cX10_part 151 = .ok (.imul, 1) := by decide +kernel
theorem dX10_part_152 : decode cX10_part 152 = .ok (.invokevirtual 105, 3) := by decide +kernel
theorem dX10_part_155 : decode cX10_part 155 = .ok (.invokestatic 109, 3) := by decide +kernel
theorem dX10_part_158 : decode cX10_part 158 = .ok (.invokevirtual 113, 3) := by decide +kernel
theorem dX10_part_161 : decode cX10_part 161 = .ok (.invokevirtual 65, 3) := by decide +kernel
theorem dX10_part_164 : decode cX10_part 164 = .ok (.ireturn, 1) := by decide +kernel
theorem dX10_layers_0 : decode cX10_layers 0 = .ok (.iload_n 1, 1) := by decide +kernel
theorem dX10_layers_1 : decode cX10_layers 1 = .ok (.bipush 10, 2) := by decide +kernel
theorem dX10_layers_3 : decode cX10_layers 3 = .ok (.invokestatic 53, 3) := by decide +kernel
theorem dX10_layers_6 : decode cX10_layers 6 = .ok (.ifCond .eq 12, 3) := by decide +kernel
theorem dX10_layers_9 : decode cX10_layers 9 = .ok (.iload_n 2, 1) := by decide +kernel
theorem dX10_layers_10 : decode cX10_layers 10 = .ok (.bipush 8, 2) := by decide +kernel
theorem dX10_layers_12 : decode cX10_layers 12 = .ok (.invokestatic 53, 3) := by decide +kernel
theorem dX10_layers_15 : decode cX10_layers 15 = .ok (.ifCond .ne 6, 3) := by decide +kernel
theorem dX10_layers_18 : decode cX10_layers 18 = .ok (.ldc 57, 2) := by decide +kernel
theorem dX10_layers_20 : decode cX10_layers 20 = .ok (.ireturn, 1) := by decide +kernel
theorem dX10_layers_21 : decode cX10_layers 21 = .ok (.iload 4, 2) := by decide +kernel
theorem dX10_layers_23 : decode cX10_layers 23 = .ok (.iconst 2, 1) := by decide +kernel
theorem dX10_layers_24 : decode cX10_layers 24 = .ok (.bipush 20, 2) := by decide +kernel
theorem dX10_layers_26 : decode cX10_layers 26 = .ok (.invokestatic 90, 3) := by decide +kernel
theorem dX10_layers_29 : decode cX10_layers 29 = .ok (.ifCond .eq 15, 3) := by decide +kernel
theorem dX10_layers_32 : decode cX10_layers 32 = .ok (.iload 5, 2) := by decide +kernel
theorem dX10_layers_34 : decode cX10_layers 34 = .ok (.iconst 0, 1) := by decide +kernel
theorem dX10_layers_35 : decode cX10_layers 35 = .ok (.sipush 10000, 3) := by decide +kernel
theorem dX10_layers_38 : decode cX10_layers 38 = .ok (.invokestatic 90, 3) := by decide +kernel
theorem dX10_layers_41 : decode cX10_layers 41 = .ok (.ifCond .ne 6, 3) := by decide +kernel
theorem dX10_layers_44 : decode cX10_layers 44 = .ok (.ldc 57, 2) := by decide +kernel
theorem dX10_layers_46 : decode cX10_layers 46 = .ok (.ireturn, 1) := by decide +kernel
theorem dX10_layers_47 : decode cX10_layers 47 = .ok (.aload_n 0, 1) := by decide +kernel
theorem dX10_layers_48 : decode cX10_layers 48 = .ok (.getfield 38, 3) := by decide +kernel
theorem dX10_layers_51 : decode cX10_layers 51 = .ok (.aload_n 0, 1) := by decide +kernel
theorem dX10_layers_52 : decode cX10_layers 52 = .ok (.getfield 17, 3) := by decide +kernel
theorem dX10_layers_55 : decode cX10_layers 55 = .ok (.iload_n 1, 1) := by decide +kernel
theorem dX10_layers_56 : decode cX10_layers 56 = .ok (.aaload, 1) := by decide +kernel
theorem dX10_layers_57 : decode cX10_layers 57 = .ok (.invokevirtual 94, 3) := by decide +kernel
theorem dX10_layers_60 : decode cX10_layers 60 = .ok (.ifCond .eq 6, 3) := by decide +kernel
theorem dX10_layers_63 : decode cX10_layers 63 = .ok (.ldc 98, 2) := by decide +kernel
theorem dX10_layers_65 : decode cX10_layers 65 = .ok (.ireturn, 1) := by decide +kernel
theorem dX10_layers_66 : decode cX10_layers 66 = .ok (.aload_n 0, 1) := by decide +kernel
theorem dX10_layers_67 : decode cX10_layers 67 = .ok (.getfield 11, 3) := by decide +kernel
theorem dX10_layers_70 : decode cX10_layers 70 = .ok (.iload_n 2, 1) := by decide +kernel
theorem dX10_layers_71 : decode cX10_layers 71 = .ok (.aaload, 1) := by decide +kernel
theorem dX10_layers_72 : decode cX10_layers 72 = .ok (.astore 6, 2) := by decide +kernel
theorem dX10_layers_74 : decode cX10_layers 74 = .ok (.aload 6, 2) := by decide +kernel
theorem dX10_layers_76 : decode cX10_layers 76 = .ok (.ifnonnull 9, 3) := by decide +kernel
theorem dX10_layers_79 : decode cX10_layers 79 = .ok (.aload_n 0, 1) := by decide +kernel
theorem dX10_layers_80 : decode cX10_layers 80 = .ok (.iconst 1, 1) := by decide +kernel
theorem dX10_layers_81 : decode cX10_layers 81 = .ok (.invokevirtual 58, 3) := by decide +kernel
theorem dX10_layers_84 : decode cX10_layers 84 = .ok (.ireturn, 1) := by decide +kernel
theorem dX10_layers_85 : decode cX10_layers 85 = .ok (.aload 6, 2) := by decide +kernel
theorem dX10_layers_87 : decode cX10_layers 87 = .ok (.iload_n 3, 1) := by decide +kernel
theorem dX10_layers_88 : decode cX10_layers 88 = .ok (.iload 4, 2) := by decide +kernel
theorem dX10_layers_90 : decode cX10_layers 90 = .ok (.invokevirtual 70, 3) := by decide +kernel
theorem dX10_layers_93 : decode cX10_layers 93 = .ok (.ifCond .ne 9, 3) := by decide +kernel
theorem dX10_layers_96 : decode cX10_layers 96 = .ok (.aload_n 0, 1) := by decide +kernel
theorem dX10_layers_97 : decode cX10_layers 97 = .ok (.iconst 2, 1) := by decide +kernel
theorem dX10_layers_98 : decode cX10_layers 98 = .ok (.invokevirtual 58, 3) := by decide +kernel
theorem dX10_layers_101 : decode cX10_layers 101 = .ok (.ireturn, 1) := by decide +kernel
theorem dX10_layers_102 : decode cX10_layers 102 = .ok (.aload 6, 2) := by decide +kernel
theorem dX10_layers_104 : decode cX10_layers 104 = .ok (.iload_n 3, 1) := by decide +kernel
theorem dX10_layers_105 : decode cX10_layers 105 = .ok (.iload 4, 2) := by decide +kernel
theorem dX10_layers_107 : decode cX10_layers 107 = .ok (.sipush 10000, 3) := by decide +kernel
theorem dX10_layers_110 : decode cX10_layers 110 = .ok (.invokevirtual 99, 3) := by decide +kernel
theorem dX10_layers_113 : decode cX10_layers 113 = .ok (.ifCond .ne 6, 3) := by decide +kernel
theorem dX10_layers_116 : decode cX10_layers 116 = .ok (.ldc 57, 2) := by decide +kernel
theorem dX10_layers_118 : decode cX10_layers 118 = .ok (.ireturn, 1) := by decide +kernel
theorem dX10_layers_119 : decode cX10_layers 119 = .ok (.aload_n 0, 1) := by decide +kernel
theorem dX10_layers_120 : decode cX10_layers 120 = .ok (.aload_n 0, 1) := by decide +kernel
theorem dX10_layers_121 : decode cX10_layers 121 = .ok (.iload_n 1, 1) := by decide +kernel
theorem dX10_layers_122 : decode cX10_layers 122 = .ok (.new 117, 3) := by decide +kernel
theorem dX10_layers_125 : decode cX10_layers 125 = .ok (.dup, 1) := by decide +kernel
theorem dX10_layers_126 : decode cX10_layers 126 = .ok (.aload 6, 2) := by decide +kernel
theorem dX10_layers_128 : decode cX10_layers 128 = .ok (.iload_n 3, 1) := by decide +kernel
theorem dX10_layers_129 : decode cX10_layers 129 = .ok (.iload 4, 2) := by decide +kernel
theorem dX10_layers_131 : decode cX10_layers 131 = .ok (.invokevirtual 105, 3) := by decide +kernel
theorem dX10_layers_134 : decode cX10_layers 134 = .ok (.iload 5, 2) := by decide +kernel
theorem dX10_layers_136 : decode cX10_layers 136 = .ok (.invokespecial 119, 3) := by decide +kernel
theorem dX10_layers_139 : decode cX10_layers 139 = .ok (.invokevirtual 113, 3) := by decide +kernel
theorem dX10_layers_142 : decode cX10_layers 142 = .ok (.invokevirtual 65, 3) := by decide +kernel
theorem dX10_layers_145 : decode cX10_layers 145 = .ok (.ireturn, 1) := by decide +kernel
theorem dX10_clear_0 : decode cX10_clear 0 = .ok (.iload_n 1, 1) := by decide +kernel
theorem dX10_clear_1 : decode cX10_clear 1 = .ok (.bipush 10, 2) := by decide +kernel
theorem dX10_clear_3 : decode cX10_clear 3 = .ok (.invokestatic 53, 3) := by decide +kernel
theorem dX10_clear_6 : decode cX10_clear 6 = .ok (.ifCond .ne 6, 3) := by decide +kernel
theorem dX10_clear_9 : decode cX10_clear 9 = .ok (.ldc 57, 2) := by decide +kernel
theorem dX10_clear_11 : decode cX10_clear 11 = .ok (.ireturn, 1) := by decide +kernel
theorem dX10_clear_12 : decode cX10_clear 12 = .ok (.aload_n 0, 1) := by decide +kernel
theorem dX10_clear_13 : decode cX10_clear 13 = .ok (.getfield 38, 3) := by decide +kernel
theorem dX10_clear_16 : decode cX10_clear 16 = .ok (.aload_n 0, 1) := by decide +kernel
theorem dX10_clear_17 : decode cX10_clear 17 = .ok (.getfield 17, 3) := by decide +kernel
theorem dX10_clear_20 : decode cX10_clear 20 = .ok (.iload_n 1, 1) := by decide +kernel
theorem dX10_clear_21 : decode cX10_clear 21 = .ok (.aaload, 1) := by decide +kernel
theorem dX10_clear_22 : decode cX10_clear 22 = .ok (.invokevirtual 94, 3) := by decide +kernel
theorem dX10_clear_25 : decode cX10_clear 25 = .ok (.ifCond .eq 6, 3) := by decide +kernel
theorem dX10_clear_28 : decode cX10_clear 28 = .ok (.ldc 98, 2) := by decide +kernel
theorem dX10_clear_30 : decode cX10_clear 30 = .ok (.ireturn, 1) := by decide +kernel
theorem dX10_clear_31 : decode cX10_clear 31 = .ok (.aload_n 0, 1) := by decide +kernel
theorem dX10_clear_32 : decode cX10_clear 32 = .ok (.getfield 17, 3) := by decide +kernel
theorem dX10_clear_35 : decode cX10_clear 35 = .ok (.iload_n 1, 1) := by decide +kernel
theorem dX10_clear_36 : decode cX10_clear 36 = .ok (.aaload, 1) := by decide +kernel
theorem dX10_clear_37 : decode cX10_clear 37 = .ok (.ifnonnull 5, 3) := by decide +kernel
theorem dX10_clear_40 : decode cX10_clear 40 = .ok (.iconst 0, 1) := by decide +kernel
theorem dX10_clear_41 : decode cX10_clear 41 = .ok (.ireturn, 1) := by decide +kernel
theorem dX10_clear_42 : decode cX10_clear 42 = .ok (.aload_n 0, 1) := by decide +kernel
theorem dX10_clear_43 : decode cX10_clear 43 = .ok (.getfield 17, 3) := by decide +kernel
theorem dX10_clear_46 : decode cX10_clear 46 = .ok (.iload_n 1, 1) := by decide +kernel
theorem dX10_clear_47 : decode cX10_clear 47 = .ok (.aconst_null, 1) := by decide +kernel
theorem dX10_clear_48 : decode cX10_clear 48 = .ok (.aastore, 1) := by decide +kernel
theorem dX10_clear_49 : decode cX10_clear 49 = .ok (.iconst 1, 1) := by decide +kernel
theorem dX10_clear_50 : decode cX10_clear 50 = .ok (.ireturn, 1) := by decide +kernel
theorem dX10_kind_0 : decode cX10_kind 0 = .ok (.iload_n 1, 1) := by decide +kernel
theorem dX10_kind_1 : decode cX10_kind 1 = .ok (.bipush 10, 2) := by decide +kernel
theorem dX10_kind_3 : decode cX10_kind 3 = .ok (.invokestatic 53, 3) := by decide +kernel
theorem dX10_kind_6 : decode cX10_kind 6 = .ok (.ifCond .ne 6, 3) := by decide +kernel
theorem dX10_kind_9 : decode cX10_kind 9 = .ok (.ldc 57, 2) := by decide +kernel
theorem dX10_kind_11 : decode cX10_kind 11 = .ok (.ireturn, 1) := by decide +kernel
theorem dX10_kind_12 : decode cX10_kind 12 = .ok (.aload_n 0, 1) := by decide +kernel
theorem dX10_kind_13 : decode cX10_kind 13 = .ok (.getfield 17, 3) := by decide +kernel
theorem dX10_kind_16 : decode cX10_kind 16 = .ok (.iload_n 1, 1) := by decide +kernel
theorem dX10_kind_17 : decode cX10_kind 17 = .ok (.aaload, 1) := by decide +kernel
theorem dX10_kind_18 : decode cX10_kind 18 = .ok (.astore_n 2, 1) := by decide +kernel
theorem dX10_kind_19 : decode cX10_kind 19 = .ok (.aload_n 2, 1) := by decide +kernel
theorem dX10_kind_20 : decode cX10_kind 20 = .ok (.ifnonnull 9, 3) := by decide +kernel
theorem dX10_kind_23 : decode cX10_kind 23 = .ok (.aload_n 0, 1) := by decide +kernel
theorem dX10_kind_24 : decode cX10_kind 24 = .ok (.iconst 1, 1) := by decide +kernel
theorem dX10_kind_25 : decode cX10_kind 25 = .ok (.invokevirtual 58, 3) := by decide +kernel
theorem dX10_kind_28 : decode cX10_kind 28 = .ok (.ireturn, 1) := by decide +kernel
theorem dX10_kind_29 : decode cX10_kind 29 = .ok (.aload_n 0, 1) := by decide +kernel
theorem dX10_kind_30 : decode cX10_kind 30 = .ok (.aload_n 2, 1) := by decide +kernel
theorem dX10_kind_31 : decode cX10_kind 31 = .ok (.invokevirtual 122, 3) := by decide +kernel
theorem dX10_kind_34 : decode cX10_kind 34 = .ok (.invokevirtual 65, 3) := by decide +kernel
theorem dX10_kind_37 : decode cX10_kind 37 = .ok (.ireturn, 1) := by decide +kernel
theorem dX10_is_0 : decode cX10_is 0 = .ok (.iload_n 1, 1) := by decide +kernel
theorem dX10_is_1 : decode cX10_is 1 = .ok (.bipush 10, 2) := by decide +kernel
theorem dX10_is_3 : decode cX10_is 3 = .ok (.invokestatic 53, 3) := by decide +kernel
theorem dX10_is_6 : decode cX10_is 6 = .ok (.ifCond .eq 11, 3) := by decide +kernel
theorem dX10_is_9 : decode cX10_is 9 = .ok (.iload_n 2, 1) := by decide +kernel
theorem dX10_is_10 : decode cX10_is 10 = .ok (.iconst 5, 1) := by decide +kernel
theorem dX10_is_11 : decode cX10_is 11 = .ok (.invokestatic 53, 3) := by decide +kernel
theorem dX10_is_14 : decode cX10_is 14 = .ok (.ifCond .ne 6, 3) := by decide +kernel
theorem dX10_is_17 : decode cX10_is 17 = .ok (.ldc 57, 2) := by decide +kernel
theorem dX10_is_19 : decode cX10_is 19 = .ok (.ireturn, 1) := by decide +kernel
theorem dX10_is_20 : decode cX10_is 20 = .ok (.aload_n 0, 1) := by decide +kernel
theorem dX10_is_21 : decode cX10_is 21 = .ok (.getfield 17, 3) := by decide +kernel
theorem dX10_is_24 : decode cX10_is 24 = .ok (.iload_n 1, 1) := by decide +kernel
theorem dX10_is_25 : decode cX10_is 25 = .ok (.aaload, 1) := by decide +kernel
theorem dX10_is_26 : decode cX10_is 26 = .ok (.iload_n 2, 1) := by decide +kernel
theorem dX10_is_27 : decode cX10_is 27 = .ok (.invokestatic 126, 3) := by decide +kernel
theorem dX10_is_30 : decode cX10_is 30 = .ok (.ifCond .eq 7, 3) := by decide +kernel
theorem dX10_is_33 : decode cX10_is 33 = .ok (.iconst 1, 1) := by decide +kernel
theorem dX10_is_34 : decode cX10_is 34 = .ok (.goto 4, 3) := by decide +kernel
theorem dX10_is_37 : decode cX10_is 37 = .ok (.iconst 0, 1) := by decide +kernel
theorem dX10_is_38 : decode cX10_is 38 = .ok (.ireturn, 1) := by decide +kernel
theorem dX10_ask_0 : decode cX10_ask 0 = .ok (.iload_n 1, 1) := by decide +kernel
theorem dX10_ask_1 : decode cX10_ask 1 = .ok (.bipush 10, 2) := by decide +kernel
theorem dX10_ask_3 : decode cX10_ask 3 = .ok (.invokestatic 53, 3) := by decide +kernel
theorem dX10_ask_6 : decode cX10_ask 6 = .ok (.ifCond .eq 11, 3) := by decide +kernel
theorem dX10_ask_9 : decode cX10_ask 9 = .ok (.iload_n 2, 1) := by decide +kernel
theorem dX10_ask_10 : decode cX10_ask 10 = .ok (.iconst 2, 1) := by decide +kernel
theorem dX10_ask_11 : decode cX10_ask 11 = .ok (.invokestatic 53, 3) := by decide +kernel
theorem dX10_ask_14 : decode cX10_ask 14 = .ok (.ifCond .ne 6, 3) := by decide +kernel
theorem dX10_ask_17 : decode cX10_ask 17 = .ok (.ldc 57, 2) := by decide +kernel
theorem dX10_ask_19 : decode cX10_ask 19 = .ok (.ireturn, 1) := by decide +kernel
theorem dX10_ask_20 : decode cX10_ask 20 = .ok (.aload_n 0, 1) := by decide +kernel
theorem dX10_ask_21 : decode cX10_ask 21 = .ok (.getfield 24, 3) := by decide +kernel
theorem dX10_ask_24 : decode cX10_ask 24 = .ok (.invokevirtual 130, 3) := by decide +kernel
theorem dX10_ask_27 : decode cX10_ask 27 = .ok (.aload_n 0, 1) := by decide +kernel
theorem dX10_ask_28 : decode cX10_ask 28 = .ok (.getfield 17, 3) := by decide +kernel
theorem dX10_ask_31 : decode cX10_ask 31 = .ok (.iload_n 1, 1) := by decide +kernel
theorem dX10_ask_32 : decode cX10_ask 32 = .ok (.aaload, 1) := by decide +kernel
theorem dX10_ask_33 : decode cX10_ask 33 = .ok (.astore_n 3, 1) := by decide +kernel
theorem dX10_ask_34 : decode cX10_ask 34 = .ok (.aload_n 3, 1) := by decide +kernel
theorem dX10_ask_35 : decode cX10_ask 35 = .ok (.ifnonnull 9, 3) := by decide +kernel
theorem dX10_ask_38 : decode cX10_ask 38 = .ok (.aload_n 0, 1) := by decide +kernel
theorem dX10_ask_39 : decode cX10_ask 39 = .ok (.iconst 1, 1) := by decide +kernel
theorem dX10_ask_40 : decode cX10_ask 40 = .ok (.invokevirtual 58, 3) := by decide +kernel
theorem dX10_ask_43 : decode cX10_ask 43 = .ok (.ireturn, 1) := by decide +kernel
theorem dX10_ask_44 : decode cX10_ask 44 = .ok (.aload_n 0, 1) := by decide +kernel
theorem dX10_ask_45 : decode cX10_ask 45 = .ok (.iload_n 2, 1) := by decide +kernel
theorem dX10_ask_46 : decode cX10_ask 46 = .ok (.ifCond .ne 14, 3) := by decide +kernel
theorem dX10_ask_49 : decode cX10_ask 49 = .ok (.aload_n 3, 1) := by decide +kernel
theorem dX10_ask_50 : decode cX10_ask 50 = .ok (.aload_n 0, 1) := by decide +kernel
theorem dX10_ask_51 : decode cX10_ask 51 = .ok (.getfield 24, 3) := by decide +kernel
theorem dX10_ask_54 : decode cX10_ask 54 = .ok (.invokevirtual 133, 3) := by decide +kernel
theorem dX10_ask_57 : decode cX10_ask 57 = .ok (.goto 11, 3) := by decide +kernel
theorem dX10_ask_60 : decode cX10_ask 60 = .ok (.aload_n 3, 1) := by decide +kernel
theorem dX10_ask_61 : decode cX10_ask 61 = .ok (.aload_n 0, 1) := by decide +kernel
theorem dX10_ask_62 : decode cX10_ask 62 = .ok (.getfield 24, 3) := by decide +kernel
theorem dX10_ask_65 : decode cX10_ask 65 = .ok (.invokevirtual 137, 3) := by decide +kernel
theorem dX10_ask_68 : decode cX10_ask 68 = .ok (.invokevirtual 65, 3) := by decide +kernel
theorem dX10_ask_71 : decode cX10_ask 71 = .ok (.ireturn, 1) := by decide +kernel
theorem dX10_trace_0 : decode cX10_trace 0 = .ok (.aload_n 0, 1) := by decide +kernel
theorem dX10_trace_1 : decode cX10_trace 1 = .ok (.getfield 24, 3) := by decide +kernel
theorem dX10_trace_4 : decode cX10_trace 4 = .ok (.iload_n 1, 1) := by decide +kernel
theorem dX10_trace_5 : decode cX10_trace 5 = .ok (.invokevirtual 140, 3) := by decide +kernel
theorem dX10_trace_8 : decode cX10_trace 8 = .ok (.ireturn, 1) := by decide +kernel
theorem dX10_gate_0 : decode cX10_gate 0 = .ok (.iload_n 1, 1) := by decide +kernel
theorem dX10_gate_1 : decode cX10_gate 1 = .ok (.bipush 10, 2) := by decide +kernel
theorem dX10_gate_3 : decode cX10_gate 3 = .ok (.invokestatic 53, 3) := by decide +kernel
theorem dX10_gate_6 : decode cX10_gate 6 = .ok (.ifCond .ne 6, 3) := by decide +kernel
theorem dX10_gate_9 : decode cX10_gate 9 = .ok (.ldc 57, 2) := by decide +kernel
theorem dX10_gate_11 : decode cX10_gate 11 = .ok (.ireturn, 1) := by decide +kernel
theorem dX10_gate_12 : decode cX10_gate 12 = .ok (.aload_n 0, 1) := by decide +kernel
theorem dX10_gate_13 : decode cX10_gate 13 = .ok (.getfield 17, 3) := by decide +kernel
theorem dX10_gate_16 : decode cX10_gate 16 = .ok (.iload_n 1, 1) := by decide +kernel
theorem dX10_gate_17 : decode cX10_gate 17 = .ok (.aaload, 1) := by decide +kernel
theorem dX10_gate_18 : decode cX10_gate 18 = .ok (.astore 4, 2) := by decide +kernel
theorem dX10_gate_20 : decode cX10_gate 20 = .ok (.aload 4, 2) := by decide +kernel
theorem dX10_gate_22 : decode cX10_gate 22 = .ok (.instanceof 143, 3) := by decide +kernel
theorem dX10_gate_25 : decode cX10_gate 25 = .ok (.ifCond .eq 12, 3) := by decide +kernel
theorem dX10_gate_28 : decode cX10_gate 28 = .ok (.aload 4, 2) := by decide +kernel
theorem dX10_gate_30 : decode cX10_gate 30 = .ok (.checkcast 143, 3) := by decide +kernel
theorem dX10_gate_33 : decode cX10_gate 33 = .ok (.astore_n 3, 1) := by decide +kernel
theorem dX10_gate_34 : decode cX10_gate 34 = .ok (.goto 9, 3) := by decide +kernel
theorem dX10_gate_37 : decode cX10_gate 37 = .ok (.aload_n 0, 1) := by decide +kernel
theorem dX10_gate_38 : decode cX10_gate 38 = .ok (.iload_n 1, 1) := by decide +kernel
theorem dX10_gate_39 : decode cX10_gate 39 = .ok (.invokevirtual 145, 3) := by decide +kernel
theorem dX10_gate_42 : decode cX10_gate 42 = .ok (.ireturn, 1) := by decide +kernel
theorem dX10_gate_43 : decode cX10_gate 43 = .ok (.aload_n 3, 1) := by decide +kernel
theorem dX10_gate_44 : decode cX10_gate 44 = .ok (.iload_n 2, 1) := by decide +kernel
theorem dX10_gate_45 : decode cX10_gate 45 = .ok (.invokevirtual 148, 3) := by decide +kernel
theorem dX10_gate_48 : decode cX10_gate 48 = .ok (.ifCond .eq 11, 3) := by decide +kernel
theorem dX10_gate_51 : decode cX10_gate 51 = .ok (.aload_n 3, 1) := by decide +kernel
theorem dX10_gate_52 : decode cX10_gate 52 = .ok (.iload_n 2, 1) := by decide +kernel
theorem dX10_gate_53 : decode cX10_gate 53 = .ok (.invokevirtual 151, 3) := by decide +kernel
theorem dX10_gate_56 : decode cX10_gate 56 = .ok (.ifCond .eq 6, 3) := by decide +kernel
theorem dX10_gate_59 : decode cX10_gate 59 = .ok (.ldc 57, 2) := by decide +kernel
theorem dX10_gate_61 : decode cX10_gate 61 = .ok (.ireturn, 1) := by decide +kernel
theorem dX10_gate_62 : decode cX10_gate 62 = .ok (.aload_n 3, 1) := by decide +kernel
theorem dX10_gate_63 : decode cX10_gate 63 = .ok (.iload_n 2, 1) := by decide +kernel
theorem dX10_gate_64 : decode cX10_gate 64 = .ok (.invokevirtual 155, 3) := by decide +kernel
theorem dX10_gate_67 : decode cX10_gate 67 = .ok (.istore 4, 2) := by decide +kernel
theorem dX10_gate_69 : decode cX10_gate 69 = .ok (.iload 4, 2) := by decide +kernel
theorem dX10_gate_71 : decode cX10_gate 71 = .ok (.ldc 158, 2) := by decide +kernel
theorem dX10_gate_73 : decode cX10_gate 73 = .ok (.if_icmp .ne 6, 3) := by decide +kernel
theorem dX10_gate_76 : decode cX10_gate 76 = .ok (.ldc 158, 2) := by decide +kernel
theorem dX10_gate_78 : decode cX10_gate 78 = .ok (.ireturn, 1) := by decide +kernel
theorem dX10_gate_79 : decode cX10_gate 79 = .ok (.aload_n 3, 1) := by decide +kernel
theorem dX10_gate_80 : decode cX10_gate 80 = .ok (.aload_n 0, 1) := by decide +kernel
theorem dX10_gate_81 : decode cX10_gate 81 = .ok (.getfield 31, 3) := by decide +kernel
theorem dX10_gate_84 : decode cX10_gate 84 = .ok (.aload_n 3, 1) := by decide +kernel
theorem dX10_gate_85 : decode cX10_gate 85 = .ok (.invokevirtual 159, 3) := by decide +kernel
theorem dX10_gate_88 : decode cX10_gate 88 = .ok (.putfield 163, 3) := by decide +kernel
theorem dX10_gate_91 : decode cX10_gate 91 = .ok (.aload_n 0, 1) := by decide +kernel
theorem dX10_gate_92 : decode cX10_gate 92 = .ok (.iload 4, 2) := by decide +kernel
theorem dX10_gate_94 : decode cX10_gate 94 = .ok (.invokevirtual 65, 3) := by decide +kernel
theorem dX10_gate_97 : decode cX10_gate 97 = .ok (.ireturn, 1) := by decide +kernel
theorem dX10_vent_0 : decode cX10_vent 0 = .ok (.iload_n 1, 1) := by decide +kernel
theorem dX10_vent_1 : decode cX10_vent 1 = .ok (.bipush 10, 2) := by decide +kernel
theorem dX10_vent_3 : decode cX10_vent 3 = .ok (.invokestatic 53, 3) := by decide +kernel
theorem dX10_vent_6 : decode cX10_vent 6 = .ok (.ifCond .ne 6, 3) := by decide +kernel
theorem dX10_vent_9 : decode cX10_vent 9 = .ok (.ldc 57, 2) := by decide +kernel
theorem dX10_vent_11 : decode cX10_vent 11 = .ok (.ireturn, 1) := by decide +kernel
theorem dX10_vent_12 : decode cX10_vent 12 = .ok (.aload_n 0, 1) := by decide +kernel
theorem dX10_vent_13 : decode cX10_vent 13 = .ok (.getfield 17, 3) := by decide +kernel
theorem dX10_vent_16 : decode cX10_vent 16 = .ok (.iload_n 1, 1) := by decide +kernel
theorem dX10_vent_17 : decode cX10_vent 17 = .ok (.aaload, 1) := by decide +kernel
theorem dX10_vent_18 : decode cX10_vent 18 = .ok (.astore 4, 2) := by decide +kernel
theorem dX10_vent_20 : decode cX10_vent 20 = .ok (.aload 4, 2) := by decide +kernel
theorem dX10_vent_22 : decode cX10_vent 22 = .ok (.instanceof 143, 3) := by decide +kernel
theorem dX10_vent_25 : decode cX10_vent 25 = .ok (.ifCond .eq 12, 3) := by decide +kernel
theorem dX10_vent_28 : decode cX10_vent 28 = .ok (.aload 4, 2) := by decide +kernel
theorem dX10_vent_30 : decode cX10_vent 30 = .ok (.checkcast 143, 3) := by decide +kernel
theorem dX10_vent_33 : decode cX10_vent 33 = .ok (.astore_n 3, 1) := by decide +kernel
theorem dX10_vent_34 : decode cX10_vent 34 = .ok (.goto 9, 3) := by decide +kernel
theorem dX10_vent_37 : decode cX10_vent 37 = .ok (.aload_n 0, 1) := by decide +kernel
theorem dX10_vent_38 : decode cX10_vent 38 = .ok (.iload_n 1, 1) := by decide +kernel
theorem dX10_vent_39 : decode cX10_vent 39 = .ok (.invokevirtual 145, 3) := by decide +kernel
theorem dX10_vent_42 : decode cX10_vent 42 = .ok (.ireturn, 1) := by decide +kernel
theorem dX10_vent_43 : decode cX10_vent 43 = .ok (.aload_n 3, 1) := by decide +kernel
theorem dX10_vent_44 : decode cX10_vent 44 = .ok (.iload_n 2, 1) := by decide +kernel
theorem dX10_vent_45 : decode cX10_vent 45 = .ok (.invokevirtual 148, 3) := by decide +kernel
theorem dX10_vent_48 : decode cX10_vent 48 = .ok (.ifCond .ne 6, 3) := by decide +kernel
theorem dX10_vent_51 : decode cX10_vent 51 = .ok (.ldc 57, 2) := by decide +kernel
theorem dX10_vent_53 : decode cX10_vent 53 = .ok (.ireturn, 1) := by decide +kernel
theorem dX10_vent_54 : decode cX10_vent 54 = .ok (.aload_n 0, 1) := by decide +kernel
theorem dX10_vent_55 : decode cX10_vent 55 = .ok (.aload_n 3, 1) := by decide +kernel
theorem dX10_vent_56 : decode cX10_vent 56 = .ok (.iload_n 2, 1) := by decide +kernel
theorem dX10_vent_57 : decode cX10_vent 57 = .ok (.invokevirtual 166, 3) := by decide +kernel
theorem dX10_vent_60 : decode cX10_vent 60 = .ok (.ifCond .eq 7, 3) := by decide +kernel
theorem dX10_vent_63 : decode cX10_vent 63 = .ok (.iconst 1, 1) := by decide +kernel
theorem dX10_vent_64 : decode cX10_vent 64 = .ok (.goto 4, 3) := by decide +kernel
theorem dX10_vent_67 : decode cX10_vent 67 = .ok (.iconst 0, 1) := by decide +kernel
theorem dX10_vent_68 : decode cX10_vent 68 = .ok (.invokevirtual 65, 3) := by decide +kernel
theorem dX10_vent_71 : decode cX10_vent 71 = .ok (.ireturn, 1) := by decide +kernel
theorem dX10_cell_0 : decode cX10_cell 0 = .ok (.iload_n 1, 1) := by decide +kernel
theorem dX10_cell_1 : decode cX10_cell 1 = .ok (.bipush 10, 2) := by decide +kernel
theorem dX10_cell_3 : decode cX10_cell 3 = .ok (.invokestatic 53, 3) := by decide +kernel
theorem dX10_cell_6 : decode cX10_cell 6 = .ok (.ifCond .eq 12, 3) := by decide +kernel
theorem dX10_cell_9 : decode cX10_cell 9 = .ok (.iload_n 3, 1) := by decide +kernel
theorem dX10_cell_10 : decode cX10_cell 10 = .ok (.iconst 0, 1) := by decide +kernel
theorem dX10_cell_11 : decode cX10_cell 11 = .ok (.iconst 4, 1) := by decide +kernel
theorem dX10_cell_12 : decode cX10_cell 12 = .ok (.invokestatic 90, 3) := by decide +kernel
theorem dX10_cell_15 : decode cX10_cell 15 = .ok (.ifCond .ne 6, 3) := by decide +kernel
theorem dX10_cell_18 : decode cX10_cell 18 = .ok (.ldc 57, 2) := by decide +kernel
theorem dX10_cell_20 : decode cX10_cell 20 = .ok (.ireturn, 1) := by decide +kernel
theorem dX10_cell_21 : decode cX10_cell 21 = .ok (.aload_n 0, 1) := by decide +kernel
theorem dX10_cell_22 : decode cX10_cell 22 = .ok (.getfield 17, 3) := by decide +kernel
theorem dX10_cell_25 : decode cX10_cell 25 = .ok (.iload_n 1, 1) := by decide +kernel
theorem dX10_cell_26 : decode cX10_cell 26 = .ok (.aaload, 1) := by decide +kernel
theorem dX10_cell_27 : decode cX10_cell 27 = .ok (.astore 5, 2) := by decide +kernel
theorem dX10_cell_29 : decode cX10_cell 29 = .ok (.aload 5, 2) := by decide +kernel
theorem dX10_cell_31 : decode cX10_cell 31 = .ok (.instanceof 143, 3) := by decide +kernel
theorem dX10_cell_34 : decode cX10_cell 34 = .ok (.ifCond .eq 13, 3) := by decide +kernel
theorem dX10_cell_37 : decode cX10_cell 37 = .ok (.aload 5, 2) := by decide +kernel
theorem dX10_cell_39 : decode cX10_cell 39 = .ok (.checkcast 143, 3) := by decide +kernel
theorem dX10_cell_42 : decode cX10_cell 42 = .ok (.astore 4, 2) := by decide +kernel
theorem dX10_cell_44 : decode cX10_cell 44 = .ok (.goto 9, 3) := by decide +kernel
theorem dX10_cell_47 : decode cX10_cell 47 = .ok (.aload_n 0, 1) := by decide +kernel
theorem dX10_cell_48 : decode cX10_cell 48 = .ok (.iload_n 1, 1) := by decide +kernel
theorem dX10_cell_49 : decode cX10_cell 49 = .ok (.invokevirtual 145, 3) := by decide +kernel
theorem dX10_cell_52 : decode cX10_cell 52 = .ok (.ireturn, 1) := by decide +kernel
theorem dX10_cell_53 : decode cX10_cell 53 = .ok (.iload_n 2, 1) := by decide +kernel
theorem dX10_cell_54 : decode cX10_cell 54 = .ok (.aload 4, 2) := by decide +kernel
theorem dX10_cell_56 : decode cX10_cell 56 = .ok (.getfield 169, 3) := by decide +kernel
theorem dX10_cell_59 : decode cX10_cell 59 = .ok (.arraylength, 1) := by decide +kernel
theorem dX10_cell_60 : decode cX10_cell 60 = .ok (.invokestatic 53, 3) := by decide +kernel
theorem dX10_cell_63 : decode cX10_cell 63 = .ok (.ifCond .ne 6, 3) := by decide +kernel
theorem dX10_cell_66 : decode cX10_cell 66 = .ok (.ldc 57, 2) := by decide +kernel
theorem dX10_cell_68 : decode cX10_cell 68 = .ok (.ireturn, 1) := by decide +kernel
theorem dX10_cell_69 : decode cX10_cell 69 = .ok (.iload_n 3, 1) := by decide +kernel
theorem dX10_cell_70 : decode cX10_cell 70 = .ok (.ifCond .ne 14, 3) := by decide +kernel
theorem dX10_cell_73 : decode cX10_cell 73 = .ok (.aload_n 0, 1) := by decide +kernel
theorem dX10_cell_74 : decode cX10_cell 74 = .ok (.aload 4, 2) := by decide +kernel
theorem dX10_cell_76 : decode cX10_cell 76 = .ok (.iload_n 2, 1) := by decide +kernel
theorem dX10_cell_77 : decode cX10_cell 77 = .ok (.invokevirtual 148, 3) := by decide +kernel
theorem dX10_cell_80 : decode cX10_cell 80 = .ok (.invokevirtual 65, 3) := by decide +kernel
theorem dX10_cell_83 : decode cX10_cell 83 = .ok (.ireturn, 1) := by decide +kernel
theorem dX10_cell_84 : decode cX10_cell 84 = .ok (.aload_n 0, 1) := by decide +kernel
theorem dX10_cell_85 : decode cX10_cell 85 = .ok (.getfield 31, 3) := by decide +kernel
theorem dX10_cell_88 : decode cX10_cell 88 = .ok (.aload 4, 2) := by decide +kernel
theorem dX10_cell_90 : decode cX10_cell 90 = .ok (.invokevirtual 173, 3) := by decide +kernel
theorem dX10_cell_93 : decode cX10_cell 93 = .ok (.iload_n 3, 1) := by decide +kernel
theorem dX10_cell_94 : decode cX10_cell 94 = .ok (.iconst 1, 1) := by decide +kernel
theorem dX10_cell_95 : decode cX10_cell 95 = .ok (.if_icmp .ne 16, 3) := by decide +kernel
theorem dX10_cell_98 : decode cX10_cell 98 = .ok (.aload_n 0, 1) := by decide +kernel
theorem dX10_cell_99 : decode cX10_cell 99 = .ok (.aload_n 0, 1) := by decide +kernel
theorem dX10_cell_100 : decode cX10_cell 100 = .ok (.getfield 31, 3) := by decide +kernel
theorem dX10_cell_103 : decode cX10_cell 103 = .ok (.iload_n 2, 1) := by decide +kernel
theorem dX10_cell_104 : decode cX10_cell 104 = .ok (.invokevirtual 177, 3) := by decide +kernel
theorem dX10_cell_107 : decode cX10_cell 107 = .ok (.invokevirtual 65, 3) := by decide +kernel
theorem dX10_cell_110 : decode cX10_cell 110 = .ok (.ireturn, 1) := by decide +kernel
theorem dX10_cell_111 : decode cX10_cell 111 = .ok (.iload_n 3, 1) := by decide +kernel
theorem dX10_cell_112 : decode cX10_cell 112 = .ok (.iconst 2, 1) := by decide +kernel
theorem dX10_cell_113 : decode cX10_cell 113 = .ok (.if_icmp .ne 16, 3) := by decide +kernel
theorem dX10_cell_116 : decode cX10_cell 116 = .ok (.aload_n 0, 1) := by decide +kernel
theorem dX10_cell_117 : decode cX10_cell 117 = .ok (.aload_n 0, 1) := by decide +kernel
theorem dX10_cell_118 : decode cX10_cell 118 = .ok (.getfield 31, 3) := by decide +kernel
theorem dX10_cell_121 : decode cX10_cell 121 = .ok (.iload_n 2, 1) := by decide +kernel
theorem dX10_cell_122 : decode cX10_cell 122 = .ok (.invokevirtual 180, 3) := by decide +kernel
theorem dX10_cell_125 : decode cX10_cell 125 = .ok (.invokevirtual 65, 3) := by decide +kernel
theorem dX10_cell_128 : decode cX10_cell 128 = .ok (.ireturn, 1) := by decide +kernel
theorem dX10_cell_129 : decode cX10_cell 129 = .ok (.iload_n 3, 1) := by decide +kernel
theorem dX10_cell_130 : decode cX10_cell 130 = .ok (.iconst 3, 1) := by decide +kernel
theorem dX10_cell_131 : decode cX10_cell 131 = .ok (.if_icmp .ne 16, 3) := by decide +kernel
theorem dX10_cell_134 : decode cX10_cell 134 = .ok (.aload_n 0, 1) := by decide +kernel
theorem dX10_cell_135 : decode cX10_cell 135 = .ok (.aload_n 0, 1) := by decide +kernel
theorem dX10_cell_136 : decode cX10_cell 136 = .ok (.getfield 31, 3) := by decide +kernel
theorem dX10_cell_139 : decode cX10_cell 139 = .ok (.iload_n 2, 1) := by decide +kernel
theorem dX10_cell_140 : decode cX10_cell 140 = .ok (.invokevirtual 183, 3) := by decide +kernel
theorem dX10_cell_143 : decode cX10_cell 143 = .ok (.invokevirtual 65, 3) := by decide +kernel
theorem dX10_cell_146 : decode cX10_cell 146 = .ok (.ireturn, 1) := by decide +kernel
theorem dX10_cell_147 : decode cX10_cell 147 = .ok (.aload_n 0, 1) := by decide +kernel
theorem dX10_cell_148 : decode cX10_cell 148 = .ok (.aload_n 0, 1) := by decide +kernel
theorem dX10_cell_149 : decode cX10_cell 149 = .ok (.getfield 31, 3) := by decide +kernel
theorem dX10_cell_152 : decode cX10_cell 152 = .ok (.iload_n 2, 1) := by decide +kernel
theorem dX10_cell_153 : decode cX10_cell 153 = .ok (.aload 4, 2) := by decide +kernel
theorem dX10_cell_155 : decode cX10_cell 155 = .ok (.invokevirtual 186, 3) := by decide +kernel
theorem dX10_cell_158 : decode cX10_cell 158 = .ok (.invokevirtual 65, 3) := by decide +kernel
theorem dX10_cell_161 : decode cX10_cell 161 = .ok (.ireturn, 1) := by decide +kernel
theorem dX10_meeting_0 : decode cX10_meeting 0 = .ok (.iload_n 1, 1) := by decide +kernel
theorem dX10_meeting_1 : decode cX10_meeting 1 = .ok (.bipush 10, 2) := by decide +kernel
theorem dX10_meeting_3 : decode cX10_meeting 3 = .ok (.invokestatic 53, 3) := by decide +kernel
theorem dX10_meeting_6 : decode cX10_meeting 6 = .ok (.ifCond .eq 11, 3) := by decide +kernel
theorem dX10_meeting_9 : decode cX10_meeting 9 = .ok (.iload_n 3, 1) := by decide +kernel
theorem dX10_meeting_10 : decode cX10_meeting 10 = .ok (.iconst 2, 1) := by decide +kernel
theorem dX10_meeting_11 : decode cX10_meeting 11 = .ok (.invokestatic 53, 3) := by decide +kernel
theorem dX10_meeting_14 : decode cX10_meeting 14 = .ok (.ifCond .ne 6, 3) := by decide +kernel
theorem dX10_meeting_17 : decode cX10_meeting 17 = .ok (.ldc 57, 2) := by decide +kernel
theorem dX10_meeting_19 : decode cX10_meeting 19 = .ok (.ireturn, 1) := by decide +kernel
theorem dX10_meeting_20 : decode cX10_meeting 20 = .ok (.aload_n 0, 1) := by decide +kernel
theorem dX10_meeting_21 : decode cX10_meeting 21 = .ok (.getfield 17, 3) := by decide +kernel
theorem dX10_meeting_24 : decode cX10_meeting 24 = .ok (.iload_n 1, 1) := by decide +kernel
theorem dX10_meeting_25 : decode cX10_meeting 25 = .ok (.aaload, 1) := by decide +kernel
theorem dX10_meeting_26 : decode cX10_meeting 26 = .ok (.astore 5, 2) := by decide +kernel
theorem dX10_meeting_28 : decode cX10_meeting 28 = .ok (.aload 5, 2) := by decide +kernel
theorem dX10_meeting_30 : decode cX10_meeting 30 = .ok (.instanceof 143, 3) := by decide +kernel
theorem dX10_meeting_33 : decode cX10_meeting 33 = .ok (.ifCond .eq 13, 3) := by decide +kernel
theorem dX10_meeting_36 : decode cX10_meeting 36 = .ok (.aload 5, 2) := by decide +kernel
theorem dX10_meeting_38 : decode cX10_meeting 38 = .ok (.checkcast 143, 3) := by decide +kernel
theorem dX10_meeting_41 : decode cX10_meeting 41 = .ok (.astore 4, 2) := by decide +kernel
theorem dX10_meeting_43 : decode cX10_meeting 43 = .ok (.goto 9, 3) := by decide +kernel
theorem dX10_meeting_46 : decode cX10_meeting 46 = .ok (.aload_n 0, 1) := by decide +kernel
theorem dX10_meeting_47 : decode cX10_meeting 47 = .ok (.iload_n 1, 1) := by decide +kernel
theorem dX10_meeting_48 : decode cX10_meeting 48 = .ok (.invokevirtual 145, 3) := by decide +kernel
theorem dX10_meeting_51 : decode cX10_meeting 51 = .ok (.ireturn, 1) := by decide +kernel
theorem dX10_meeting_52 : decode cX10_meeting 52 = .ok (.aload_n 0, 1) := by decide +kernel
theorem dX10_meeting_53 : decode cX10_meeting 53 = .ok (.getfield 31, 3) := by decide +kernel
theorem dX10_meeting_56 : decode cX10_meeting 56 = .ok (.aload 4, 2) := by decide +kernel
theorem dX10_meeting_58 : decode cX10_meeting 58 = .ok (.invokevirtual 173, 3) := by decide +kernel
theorem dX10_meeting_61 : decode cX10_meeting 61 = .ok (.aload_n 0, 1) := by decide +kernel
theorem dX10_meeting_62 : decode cX10_meeting 62 = .ok (.aload_n 0, 1) := by decide +kernel
theorem dX10_meeting_63 : decode cX10_meeting 63 = .ok (.getfield 31, 3) := by decide +kernel
theorem dX10_meeting_66 : decode cX10_meeting 66 = .ok (.iload_n 2, 1) := by decide +kernel
theorem dX10_meeting_67 : decode cX10_meeting 67 = .ok (.iload_n 3, 1) := by decide +kernel
theorem dX10_meeting_68 : decode cX10_meeting 68 = .ok (.invokevirtual 190, 3) := by decide +kernel
theorem dX10_meeting_71 : decode cX10_meeting 71 = .ok (.invokevirtual 65, 3) := by decide +kernel
theorem dX10_meeting_74 : decode cX10_meeting 74 = .ok (.ireturn, 1) := by decide +kernel
theorem dX10_trap_0 : decode cX10_trap 0 = .ok (.iload_n 1, 1) := by decide +kernel
theorem dX10_trap_1 : decode cX10_trap 1 = .ok (.bipush 10, 2) := by decide +kernel
theorem dX10_trap_3 : decode cX10_trap 3 = .ok (.invokestatic 53, 3) := by decide +kernel
theorem dX10_trap_6 : decode cX10_trap 6 = .ok (.ifCond .ne 6, 3) := by decide +kernel
theorem dX10_trap_9 : decode cX10_trap 9 = .ok (.ldc 57, 2) := by decide +kernel
theorem dX10_trap_11 : decode cX10_trap 11 = .ok (.ireturn, 1) := by decide +kernel
theorem dX10_trap_12 : decode cX10_trap 12 = .ok (.aload_n 0, 1) := by decide +kernel
theorem dX10_trap_13 : decode cX10_trap 13 = .ok (.getfield 17, 3) := by decide +kernel
theorem dX10_trap_16 : decode cX10_trap 16 = .ok (.iload_n 1, 1) := by decide +kernel
theorem dX10_trap_17 : decode cX10_trap 17 = .ok (.aaload, 1) := by decide +kernel
theorem dX10_trap_18 : decode cX10_trap 18 = .ok (.astore 4, 2) := by decide +kernel
theorem dX10_trap_20 : decode cX10_trap 20 = .ok (.aload 4, 2) := by decide +kernel
theorem dX10_trap_22 : decode cX10_trap 22 = .ok (.instanceof 143, 3) := by decide +kernel
theorem dX10_trap_25 : decode cX10_trap 25 = .ok (.ifCond .eq 12, 3) := by decide +kernel
theorem dX10_trap_28 : decode cX10_trap 28 = .ok (.aload 4, 2) := by decide +kernel
theorem dX10_trap_30 : decode cX10_trap 30 = .ok (.checkcast 143, 3) := by decide +kernel
theorem dX10_trap_33 : decode cX10_trap 33 = .ok (.astore_n 3, 1) := by decide +kernel
theorem dX10_trap_34 : decode cX10_trap 34 = .ok (.goto 9, 3) := by decide +kernel
theorem dX10_trap_37 : decode cX10_trap 37 = .ok (.aload_n 0, 1) := by decide +kernel
theorem dX10_trap_38 : decode cX10_trap 38 = .ok (.iload_n 1, 1) := by decide +kernel
theorem dX10_trap_39 : decode cX10_trap 39 = .ok (.invokevirtual 145, 3) := by decide +kernel
theorem dX10_trap_42 : decode cX10_trap 42 = .ok (.ireturn, 1) := by decide +kernel
theorem dX10_trap_43 : decode cX10_trap 43 = .ok (.aload_n 0, 1) := by decide +kernel
theorem dX10_trap_44 : decode cX10_trap 44 = .ok (.getfield 31, 3) := by decide +kernel
theorem dX10_trap_47 : decode cX10_trap 47 = .ok (.aload_n 3, 1) := by decide +kernel
theorem dX10_trap_48 : decode cX10_trap 48 = .ok (.invokevirtual 173, 3) := by decide +kernel
theorem dX10_trap_51 : decode cX10_trap 51 = .ok (.aload_n 0, 1) := by decide +kernel
theorem dX10_trap_52 : decode cX10_trap 52 = .ok (.aload_n 0, 1) := by decide +kernel
theorem dX10_trap_53 : decode cX10_trap 53 = .ok (.getfield 31, 3) := by decide +kernel
theorem dX10_trap_56 : decode cX10_trap 56 = .ok (.iload_n 2, 1) := by decide +kernel
theorem dX10_trap_57 : decode cX10_trap 57 = .ok (.aload_n 3, 1) := by decide +kernel
theorem dX10_trap_58 : decode cX10_trap 58 = .ok (.invokevirtual 194, 3) := by decide +kernel
theorem dX10_trap_61 : decode cX10_trap 61 = .ok (.invokevirtual 65, 3) := by decide +kernel
theorem dX10_trap_64 : decode cX10_trap 64 = .ok (.ireturn, 1) := by decide +kernel
theorem dX10_force_0 : decode cX10_force 0 = .ok (.iload_n 1, 1) := by decide +kernel
theorem dX10_force_1 : decode cX10_force 1 = .ok (.bipush 10, 2) := by decide +kernel
theorem dX10_force_3 : decode cX10_force 3 = .ok (.invokestatic 53, 3) := by decide +kernel
theorem dX10_force_6 : decode cX10_force 6 = .ok (.ifCond .ne 7, 3) := by decide +kernel
theorem dX10_force_9 : decode cX10_force 9 = .ok (.ldc2_w 68, 3) := by decide +kernel
theorem dX10_force_12 : decode cX10_force 12 = .ok (.lreturn, 1) := by decide +kernel
theorem dX10_force_13 : decode cX10_force 13 = .ok (.aload_n 0, 1) := by decide +kernel
theorem dX10_force_14 : decode cX10_force 14 = .ok (.getfield 17, 3) := by decide +kernel
theorem dX10_force_17 : decode cX10_force 17 = .ok (.iload_n 1, 1) := by decide +kernel
theorem dX10_force_18 : decode cX10_force 18 = .ok (.aaload, 1) := by decide +kernel
theorem dX10_force_19 : decode cX10_force 19 = .ok (.astore 4, 2) := by decide +kernel
theorem dX10_force_21 : decode cX10_force 21 = .ok (.aload 4, 2) := by decide +kernel
theorem dX10_force_23 : decode cX10_force 23 = .ok (.instanceof 143, 3) := by decide +kernel
theorem dX10_force_26 : decode cX10_force 26 = .ok (.ifCond .eq 12, 3) := by decide +kernel
theorem dX10_force_29 : decode cX10_force 29 = .ok (.aload 4, 2) := by decide +kernel
theorem dX10_force_31 : decode cX10_force 31 = .ok (.checkcast 143, 3) := by decide +kernel
theorem dX10_force_34 : decode cX10_force 34 = .ok (.astore_n 3, 1) := by decide +kernel
theorem dX10_force_35 : decode cX10_force 35 = .ok (.goto 10, 3) := by decide +kernel
theorem dX10_force_38 : decode cX10_force 38 = .ok (.aload_n 0, 1) := by decide +kernel
theorem dX10_force_39 : decode cX10_force 39 = .ok (.iload_n 1, 1) := by decide +kernel
theorem dX10_force_40 : decode cX10_force 40 = .ok (.invokevirtual 145, 3) := by decide +kernel
theorem dX10_force_43 : decode cX10_force 43 = .ok (.i2l, 1) := by decide +kernel
theorem dX10_force_44 : decode cX10_force 44 = .ok (.lreturn, 1) := by decide +kernel
theorem dX10_force_45 : decode cX10_force 45 = .ok (.aload_n 0, 1) := by decide +kernel
theorem dX10_force_46 : decode cX10_force 46 = .ok (.getfield 31, 3) := by decide +kernel
theorem dX10_force_49 : decode cX10_force 49 = .ok (.aload_n 3, 1) := by decide +kernel
theorem dX10_force_50 : decode cX10_force 50 = .ok (.invokevirtual 173, 3) := by decide +kernel
theorem dX10_force_53 : decode cX10_force 53 = .ok (.aload_n 0, 1) := by decide +kernel
theorem dX10_force_54 : decode cX10_force 54 = .ok (.iconst 0, 1) := by decide +kernel
theorem dX10_force_55 : decode cX10_force 55 = .ok (.putfield 49, 3) := by decide +kernel
theorem dX10_force_58 : decode cX10_force 58 = .ok (.aload_n 0, 1) := by decide +kernel
theorem dX10_force_59 : decode cX10_force 59 = .ok (.getfield 31, 3) := by decide +kernel
theorem dX10_force_62 : decode cX10_force 62 = .ok (.iload_n 2, 1) := by decide +kernel
theorem dX10_force_63 : decode cX10_force 63 = .ok (.invokevirtual 197, 3) := by decide +kernel
theorem dX10_force_66 : decode cX10_force 66 = .ok (.lreturn, 1) := by decide +kernel
theorem dX10_best_0 : decode cX10_best 0 = .ok (.iload_n 1, 1) := by decide +kernel
theorem dX10_best_1 : decode cX10_best 1 = .ok (.bipush 10, 2) := by decide +kernel
theorem dX10_best_3 : decode cX10_best 3 = .ok (.invokestatic 53, 3) := by decide +kernel
theorem dX10_best_6 : decode cX10_best 6 = .ok (.ifCond .ne 6, 3) := by decide +kernel
theorem dX10_best_9 : decode cX10_best 9 = .ok (.ldc 57, 2) := by decide +kernel
theorem dX10_best_11 : decode cX10_best 11 = .ok (.ireturn, 1) := by decide +kernel
theorem dX10_best_12 : decode cX10_best 12 = .ok (.aload_n 0, 1) := by decide +kernel
theorem dX10_best_13 : decode cX10_best 13 = .ok (.getfield 17, 3) := by decide +kernel
theorem dX10_best_16 : decode cX10_best 16 = .ok (.iload_n 1, 1) := by decide +kernel
theorem dX10_best_17 : decode cX10_best 17 = .ok (.aaload, 1) := by decide +kernel
theorem dX10_best_18 : decode cX10_best 18 = .ok (.astore_n 3, 1) := by decide +kernel
theorem dX10_best_19 : decode cX10_best 19 = .ok (.aload_n 3, 1) := by decide +kernel
theorem dX10_best_20 : decode cX10_best 20 = .ok (.instanceof 143, 3) := by decide +kernel
theorem dX10_best_23 : decode cX10_best 23 = .ok (.ifCond .eq 11, 3) := by decide +kernel
theorem dX10_best_26 : decode cX10_best 26 = .ok (.aload_n 3, 1) := by decide +kernel
theorem dX10_best_27 : decode cX10_best 27 = .ok (.checkcast 143, 3) := by decide +kernel
theorem dX10_best_30 : decode cX10_best 30 = .ok (.astore_n 2, 1) := by decide +kernel
theorem dX10_best_31 : decode cX10_best 31 = .ok (.goto 9, 3) := by decide +kernel
theorem dX10_best_34 : decode cX10_best 34 = .ok (.aload_n 0, 1) := by decide +kernel
theorem dX10_best_35 : decode cX10_best 35 = .ok (.iload_n 1, 1) := by decide +kernel
theorem dX10_best_36 : decode cX10_best 36 = .ok (.invokevirtual 145, 3) := by decide +kernel
theorem dX10_best_39 : decode cX10_best 39 = .ok (.ireturn, 1) := by decide +kernel
theorem dX10_best_40 : decode cX10_best 40 = .ok (.aload_n 2, 1) := by decide +kernel
theorem dX10_best_41 : decode cX10_best 41 = .ok (.getfield 201, 3) := by decide +kernel
theorem dX10_best_44 : decode cX10_best 44 = .ok (.ifCond .ne 20, 3) := by decide +kernel
theorem dX10_best_47 : decode cX10_best 47 = .ok (.aload_n 2, 1) := by decide +kernel
theorem dX10_best_48 : decode cX10_best 48 = .ok (.aload_n 0, 1) := by decide +kernel
theorem dX10_best_49 : decode cX10_best 49 = .ok (.getfield 31, 3) := by decide +kernel
theorem dX10_best_52 : decode cX10_best 52 = .ok (.aload_n 2, 1) := by decide +kernel
theorem dX10_best_53 : decode cX10_best 53 = .ok (.invokevirtual 205, 3) := by decide +kernel
theorem dX10_best_56 : decode cX10_best 56 = .ok (.putfield 208, 3) := by decide +kernel
theorem dX10_best_59 : decode cX10_best 59 = .ok (.aload_n 2, 1) := by decide +kernel
theorem dX10_best_60 : decode cX10_best 60 = .ok (.iconst 1, 1) := by decide +kernel
theorem dX10_best_61 : decode cX10_best 61 = .ok (.putfield 201, 3) := by decide +kernel
theorem dX10_best_64 : decode cX10_best 64 = .ok (.aload_n 0, 1) := by decide +kernel
theorem dX10_best_65 : decode cX10_best 65 = .ok (.aload_n 2, 1) := by decide +kernel
theorem dX10_best_66 : decode cX10_best 66 = .ok (.getfield 208, 3) := by decide +kernel
theorem dX10_best_69 : decode cX10_best 69 = .ok (.invokevirtual 65, 3) := by decide +kernel
theorem dX10_best_72 : decode cX10_best 72 = .ok (.ireturn, 1) := by decide +kernel
theorem dX10_branch_0 : decode cX10_branch 0 = .ok (.iload_n 1, 1) := by decide +kernel
theorem dX10_branch_1 : decode cX10_branch 1 = .ok (.ldc 210, 2) := by decide +kernel
theorem dX10_branch_3 : decode cX10_branch 3 = .ok (.if_icmp .eq 20, 3) := by decide +kernel
theorem dX10_branch_6 : decode cX10_branch 6 = .ok (.iload_n 1, 1) := by decide +kernel
theorem dX10_branch_7 : decode cX10_branch 7 = .ok (.aload_n 0, 1) := by decide +kernel
theorem dX10_branch_8 : decode cX10_branch 8 = .ok (.getfield 38, 3) := by decide +kernel
theorem dX10_branch_11 : decode cX10_branch 11 = .ok (.getfield 211, 3) := by decide +kernel
theorem dX10_branch_14 : decode cX10_branch 14 = .ok (.invokestatic 53, 3) := by decide +kernel
theorem dX10_branch_17 : decode cX10_branch 17 = .ok (.ifCond .ne 6, 3) := by decide +kernel
theorem dX10_branch_20 : decode cX10_branch 20 = .ok (.ldc 57, 2) := by decide +kernel
theorem dX10_branch_22 : decode cX10_branch 22 = .ok (.ireturn, 1) := by decide +kernel
theorem dX10_branch_23 : decode cX10_branch 23 = .ok (.iload_n 2, 1) := by decide +kernel
theorem dX10_branch_24 : decode cX10_branch 24 = .ok (.iconst 1, 1) := by decide +kernel
theorem dX10_branch_25 : decode cX10_branch 25 = .ok (.bipush 50, 2) := by decide +kernel
theorem dX10_branch_27 : decode cX10_branch 27 = .ok (.invokestatic 90, 3) := by decide +kernel
theorem dX10_branch_30 : decode cX10_branch 30 = .ok (.ifCond .eq 13, 3) := by decide +kernel
theorem dX10_branch_33 : decode cX10_branch 33 = .ok (.iload_n 3, 1) := by decide +kernel
theorem dX10_branch_34 : decode cX10_branch 34 = .ok (.iconst 1, 1) := by decide +kernel
theorem dX10_branch_35 : decode cX10_branch 35 = .ok (.bipush 9, 2) := by decide +kernel
theorem dX10_branch_37 : decode cX10_branch 37 = .ok (.invokestatic 90, 3) := by decide +kernel
theorem dX10_branch_40 : decode cX10_branch 40 = .ok (.ifCond .ne 6, 3) := by decide +kernel
theorem dX10_branch_43 : decode cX10_branch 43 = .ok (.ldc 57, 2) := by decide +kernel
theorem dX10_branch_45 : decode cX10_branch 45 = .ok (.ireturn, 1) := by decide +kernel
theorem dX10_branch_46 : decode cX10_branch 46 = .ok (.aload_n 0, 1) := by decide +kernel
theorem dX10_branch_47 : decode cX10_branch 47 = .ok (.getfield 38, 3) := by decide +kernel
theorem dX10_branch_50 : decode cX10_branch 50 = .ok (.iload_n 1, 1) := by decide +kernel
theorem dX10_branch_51 : decode cX10_branch 51 = .ok (.iload_n 2, 1) := by decide +kernel
theorem dX10_branch_52 : decode cX10_branch 52 = .ok (.iload_n 3, 1) := by decide +kernel
theorem dX10_branch_53 : decode cX10_branch 53 = .ok (.invokevirtual 214, 3) := by decide +kernel
theorem dX10_branch_56 : decode cX10_branch 56 = .ok (.ireturn, 1) := by decide +kernel
theorem dX10_hang_0 : decode cX10_hang 0 = .ok (.iload_n 1, 1) := by decide +kernel
theorem dX10_hang_1 : decode cX10_hang 1 = .ok (.aload_n 0, 1) := by decide +kernel
theorem dX10_hang_2 : decode cX10_hang 2 = .ok (.getfield 38, 3) := by decide +kernel
theorem dX10_hang_5 : decode cX10_hang 5 = .ok (.getfield 211, 3) := by decide +kernel
theorem dX10_hang_8 : decode cX10_hang 8 = .ok (.invokestatic 53, 3) := by decide +kernel
theorem dX10_hang_11 : decode cX10_hang 11 = .ok (.ifCond .eq 12, 3) := by decide +kernel
theorem dX10_hang_14 : decode cX10_hang 14 = .ok (.iload_n 2, 1) := by decide +kernel
theorem dX10_hang_15 : decode cX10_hang 15 = .ok (.bipush 10, 2) := by decide +kernel
theorem dX10_hang_17 : decode cX10_hang 17 = .ok (.invokestatic 53, 3) := by decide +kernel
theorem dX10_hang_20 : decode cX10_hang 20 = .ok (.ifCond .ne 6, 3) := by decide +kernel
theorem dX10_hang_23 : decode cX10_hang 23 = .ok (.ldc 57, 2) := by decide +kernel
theorem dX10_hang_25 : decode cX10_hang 25 = .ok (.ireturn, 1) := by decide +kernel
theorem dX10_hang_26 : decode cX10_hang 26 = .ok (.aload_n 0, 1) := by decide +kernel
theorem dX10_hang_27 : decode cX10_hang 27 = .ok (.getfield 38, 3) := by decide +kernel
theorem dX10_hang_30 : decode cX10_hang 30 = .ok (.iload_n 1, 1) := by decide +kernel
theorem dX10_hang_31 : decode cX10_hang 31 = .ok (.invokevirtual 218, 3) := by decide +kernel
theorem dX10_hang_34 : decode cX10_hang 34 = .ok (.ifCond .ne 19, 3) := by decide +kernel
theorem dX10_hang_37 : decode cX10_hang 37 = .ok (.aload_n 0, 1) := by decide +kernel
theorem dX10_hang_38 : decode cX10_hang 38 = .ok (.getfield 38, 3) := by decide +kernel
theorem dX10_hang_41 : decode cX10_hang 41 = .ok (.aload_n 0, 1) := by decide +kernel
theorem dX10_hang_42 : decode cX10_hang 42 = .ok (.getfield 17, 3) := by decide +kernel
theorem dX10_hang_45 : decode cX10_hang 45 = .ok (.iload_n 2, 1) := by decide +kernel
theorem dX10_hang_46 : decode cX10_hang 46 = .ok (.aaload, 1) := by decide +kernel
theorem dX10_hang_47 : decode cX10_hang 47 = .ok (.invokevirtual 94, 3) := by decide +kernel
theorem dX10_hang_50 : decode cX10_hang 50 = .ok (.ifCond .eq 6, 3) := by decide +kernel
theorem dX10_hang_53 : decode cX10_hang 53 = .ok (.ldc 98, 2) := by decide +kernel
theorem dX10_hang_55 : decode cX10_hang 55 = .ok (.ireturn, 1) := by decide +kernel
theorem dX10_hang_56 : decode cX10_hang 56 = .ok (.aload_n 0, 1) := by decide +kernel
theorem dX10_hang_57 : decode cX10_hang 57 = .ok (.getfield 17, 3) := by decide +kernel
theorem dX10_hang_60 : decode cX10_hang 60 = .ok (.iload_n 2, 1) := by decide +kernel
theorem dX10_hang_61 : decode cX10_hang 61 = .ok (.aaload, 1) := by decide +kernel
theorem dX10_hang_62 : decode cX10_hang 62 = .ok (.astore 4, 2) := by decide +kernel
theorem dX10_hang_64 : decode cX10_hang 64 = .ok (.aload 4, 2) := by decide +kernel
theorem dX10_hang_66 : decode cX10_hang 66 = .ok (.instanceof 143, 3) := by decide +kernel
theorem dX10_hang_69 : decode cX10_hang 69 = .ok (.ifCond .eq 12, 3) := by decide +kernel
theorem dX10_hang_72 : decode cX10_hang 72 = .ok (.aload 4, 2) := by decide +kernel
theorem dX10_hang_74 : decode cX10_hang 74 = .ok (.checkcast 143, 3) := by decide +kernel
theorem dX10_hang_77 : decode cX10_hang 77 = .ok (.astore_n 3, 1) := by decide +kernel
theorem dX10_hang_78 : decode cX10_hang 78 = .ok (.goto 9, 3) := by decide +kernel
theorem dX10_hang_81 : decode cX10_hang 81 = .ok (.aload_n 0, 1) := by decide +kernel
theorem dX10_hang_82 : decode cX10_hang 82 = .ok (.iload_n 2, 1) := by decide +kernel
theorem dX10_hang_83 : decode cX10_hang 83 = .ok (.invokevirtual 145, 3) := by decide +kernel
theorem dX10_hang_86 : decode cX10_hang 86 = .ok (.ireturn, 1) := by decide +kernel
theorem dX10_hang_87 : decode cX10_hang 87 = .ok (.aload_n 0, 1) := by decide +kernel
theorem dX10_hang_88 : decode cX10_hang 88 = .ok (.aload_n 0, 1) := by decide +kernel
theorem dX10_hang_89 : decode cX10_hang 89 = .ok (.getfield 38, 3) := by decide +kernel
theorem dX10_hang_92 : decode cX10_hang 92 = .ok (.iload_n 1, 1) := by decide +kernel
theorem dX10_hang_93 : decode cX10_hang 93 = .ok (.aload_n 3, 1) := by decide +kernel
theorem dX10_hang_94 : decode cX10_hang 94 = .ok (.invokevirtual 221, 3) := by decide +kernel
theorem dX10_hang_97 : decode cX10_hang 97 = .ok (.invokevirtual 65, 3) := by decide +kernel
theorem dX10_hang_100 : decode cX10_hang 100 = .ok (.ireturn, 1) := by decide +kernel
theorem dX10_strip_0 : decode cX10_strip 0 = .ok (.aload_n 0, 1) := by decide +kernel
theorem dX10_strip_1 : decode cX10_strip 1 = .ok (.getfield 38, 3) := by decide +kernel
theorem dX10_strip_4 : decode cX10_strip 4 = .ok (.invokevirtual 224, 3) := by decide +kernel
theorem dX10_strip_7 : decode cX10_strip 7 = .ok (.ireturn, 1) := by decide +kernel
theorem dX10_end_0 : decode cX10_end 0 = .ok (.iload_n 1, 1) := by decide +kernel
theorem dX10_end_1 : decode cX10_end 1 = .ok (.aload_n 0, 1) := by decide +kernel
theorem dX10_end_2 : decode cX10_end 2 = .ok (.getfield 38, 3) := by decide +kernel
theorem dX10_end_5 : decode cX10_end 5 = .ok (.getfield 211, 3) := by decide +kernel
theorem dX10_end_8 : decode cX10_end 8 = .ok (.invokestatic 53, 3) := by decide +kernel
theorem dX10_end_11 : decode cX10_end 11 = .ok (.ifCond .ne 6, 3) := by decide +kernel
theorem dX10_end_14 : decode cX10_end 14 = .ok (.ldc 57, 2) := by decide +kernel
theorem dX10_end_16 : decode cX10_end 16 = .ok (.ireturn, 1) := by decide +kernel
theorem dX10_end_17 : decode cX10_end 17 = .ok (.aload_n 0, 1) := by decide +kernel
theorem dX10_end_18 : decode cX10_end 18 = .ok (.getfield 38, 3) := by decide +kernel
theorem dX10_end_21 : decode cX10_end 21 = .ok (.iload_n 1, 1) := by decide +kernel
theorem dX10_end_22 : decode cX10_end 22 = .ok (.invokevirtual 227, 3) := by decide +kernel
theorem dX10_end_25 : decode cX10_end 25 = .ok (.ireturn, 1) := by decide +kernel
theorem dX10_runners_0 : decode cX10_runners 0 = .ok (.iload_n 1, 1) := by decide +kernel
theorem dX10_runners_1 : decode cX10_runners 1 = .ok (.ifCond .ne 11, 3) := by decide +kernel
theorem dX10_runners_4 : decode cX10_runners 4 = .ok (.aload_n 0, 1) := by decide +kernel
theorem dX10_runners_5 : decode cX10_runners 5 = .ok (.getfield 38, 3) := by decide +kernel
theorem dX10_runners_8 : decode cX10_runners 8 = .ok (.invokevirtual 230, 3) := by decide +kernel
theorem dX10_runners_11 : decode cX10_runners 11 = .ok (.ireturn, 1) := by decide +kernel
theorem dX10_runners_12 : decode cX10_runners 12 = .ok (.iload_n 1, 1) := by decide +kernel
theorem dX10_runners_13 : decode cX10_runners 13 = .ok (.iconst 1, 1) := by decide +kernel
theorem dX10_runners_14 : decode cX10_runners 14 = .ok (.if_icmp .ne 11, 3) := by decide +kernel
theorem dX10_runners_17 : decode cX10_runners 17 = .ok (.aload_n 0, 1) := by decide +kernel
theorem dX10_runners_18 : decode cX10_runners 18 = .ok (.getfield 38, 3) := by decide +kernel
theorem dX10_runners_21 : decode cX10_runners 21 = .ok (.invokevirtual 233, 3) := by decide +kernel
theorem dX10_runners_24 : decode cX10_runners 24 = .ok (.ireturn, 1) := by decide +kernel
theorem dX10_runners_25 : decode cX10_runners 25 = .ok (.iload_n 1, 1) := by decide +kernel
theorem dX10_runners_26 : decode cX10_runners 26 = .ok (.iconst 2, 1) := by decide +kernel
theorem dX10_runners_27 : decode cX10_runners 27 = .ok (.if_icmp .ne 11, 3) := by decide +kernel
theorem dX10_runners_30 : decode cX10_runners 30 = .ok (.aload_n 0, 1) := by decide +kernel
theorem dX10_runners_31 : decode cX10_runners 31 = .ok (.getfield 38, 3) := by decide +kernel
theorem dX10_runners_34 : decode cX10_runners 34 = .ok (.invokevirtual 236, 3) := by decide +kernel
theorem dX10_runners_37 : decode cX10_runners 37 = .ok (.ireturn, 1) := by decide +kernel
theorem dX10_runners_38 : decode cX10_runners 38 = .ok (.ldc 57, 2) := by decide +kernel
theorem dX10_runners_40 : decode cX10_runners 40 = .ok (.ireturn, 1) := by decide +kernel
theorem dX10_balance_0 : decode cX10_balance 0 = .ok (.iload_n 1, 1) := by decide +kernel
theorem dX10_balance_1 : decode cX10_balance 1 = .ok (.ifCond .eq 19, 3) := by decide +kernel
theorem dX10_balance_4 : decode cX10_balance 4 = .ok (.iload_n 1, 1) := by decide +kernel
theorem dX10_balance_5 : decode cX10_balance 5 = .ok (.sipush (-1023), 3) := by decide +kernel
theorem dX10_balance_8 : decode cX10_balance 8 = .ok (.iand, 1) := by decide +kernel
theorem dX10_balance_9 : decode cX10_balance 9 = .ok (.ifCond .ne 11, 3) := by decide +kernel
theorem dX10_balance_12 : decode cX10_balance 12 = .ok (.iload_n 1, 1) := by decide +kernel
theorem dX10_balance_13 : decode cX10_balance 13 = .ok (.invokestatic 239, 3) := by decide +kernel
theorem dX10_balance_16 : decode cX10_balance 16 = .ok (.iconst 3, 1) := by decide +kernel
theorem dX10_balance_17 : decode cX10_balance 17 = .ok (.if_icmp .le 6, 3) := by decide +kernel
theorem dX10_balance_20 : decode cX10_balance 20 = .ok (.ldc 57, 2) := by decide +kernel
theorem dX10_balance_22 : decode cX10_balance 22 = .ok (.ireturn, 1) := by decide +kernel
theorem dX10_balance_23 : decode cX10_balance 23 = .ok (.aload_n 0, 1) := by decide +kernel
theorem dX10_balance_24 : decode cX10_balance 24 = .ok (.getfield 38, 3) := by decide +kernel
theorem dX10_balance_27 : decode cX10_balance 27 = .ok (.iload_n 1, 1) := by decide +kernel
theorem dX10_balance_28 : decode cX10_balance 28 = .ok (.invokevirtual 244, 3) := by decide +kernel
theorem dX10_balance_31 : decode cX10_balance 31 = .ok (.aload_n 0, 1) := by decide +kernel
theorem dX10_balance_32 : decode cX10_balance 32 = .ok (.getfield 38, 3) := by decide +kernel
theorem dX10_balance_35 : decode cX10_balance 35 = .ok (.invokevirtual 230, 3) := by decide +kernel
theorem dX10_balance_38 : decode cX10_balance 38 = .ok (.ireturn, 1) := by decide +kernel
theorem dX10_size_0 : decode cX10_size 0 = .ok (.iload_n 1, 1) := by decide +kernel
theorem dX10_size_1 : decode cX10_size 1 = .ok (.aload_n 0, 1) := by decide +kernel
theorem dX10_size_2 : decode cX10_size 2 = .ok (.getfield 38, 3) := by decide +kernel
theorem dX10_size_5 : decode cX10_size 5 = .ok (.getfield 211, 3) := by decide +kernel
theorem dX10_size_8 : decode cX10_size 8 = .ok (.invokestatic 53, 3) := by decide +kernel
theorem dX10_size_11 : decode cX10_size 11 = .ok (.ifCond .ne 6, 3) := by decide +kernel
theorem dX10_size_14 : decode cX10_size 14 = .ok (.ldc 57, 2) := by decide +kernel
theorem dX10_size_16 : decode cX10_size 16 = .ok (.ireturn, 1) := by decide +kernel
theorem dX10_size_17 : decode cX10_size 17 = .ok (.aload_n 0, 1) := by decide +kernel
theorem dX10_size_18 : decode cX10_size 18 = .ok (.getfield 38, 3) := by decide +kernel
theorem dX10_size_21 : decode cX10_size 21 = .ok (.getfield 248, 3) := by decide +kernel
theorem dX10_size_24 : decode cX10_size 24 = .ok (.iload_n 1, 1) := by decide +kernel
theorem dX10_size_25 : decode cX10_size 25 = .ok (.iaload, 1) := by decide +kernel
theorem dX10_size_26 : decode cX10_size 26 = .ok (.ireturn, 1) := by decide +kernel
theorem dX10_beat_0 : decode cX10_beat 0 = .ok (.iload_n 1, 1) := by decide +kernel
theorem dX10_beat_1 : decode cX10_beat 1 = .ok (.bipush 10, 2) := by decide +kernel
theorem dX10_beat_3 : decode cX10_beat 3 = .ok (.invokestatic 53, 3) := by decide +kernel
theorem dX10_beat_6 : decode cX10_beat 6 = .ok (.ifCond .eq 13, 3) := by decide +kernel
theorem dX10_beat_9 : decode cX10_beat 9 = .ok (.iload_n 2, 1) := by decide +kernel
theorem dX10_beat_10 : decode cX10_beat 10 = .ok (.iconst 1, 1) := by decide +kernel
theorem dX10_beat_11 : decode cX10_beat 11 = .ok (.bipush 100, 2) := by decide +kernel
theorem dX10_beat_13 : decode cX10_beat 13 = .ok (.invokestatic 90, 3) := by decide +kernel
theorem dX10_beat_16 : decode cX10_beat 16 = .ok (.ifCond .ne 6, 3) := by decide +kernel
theorem dX10_beat_19 : decode cX10_beat 19 = .ok (.ldc 57, 2) := by decide +kernel
theorem dX10_beat_21 : decode cX10_beat 21 = .ok (.ireturn, 1) := by decide +kernel
theorem dX10_beat_22 : decode cX10_beat 22 = .ok (.iload_n 3, 1) := by decide +kernel
theorem dX10_beat_23 : decode cX10_beat 23 = .ok (.iconst 1, 1) := by decide +kernel
theorem dX10_beat_24 : decode cX10_beat 24 = .ok (.iconst 5, 1) := by decide +kernel
theorem dX10_beat_25 : decode cX10_beat 25 = .ok (.invokestatic 90, 3) := by decide +kernel
theorem dX10_beat_28 : decode cX10_beat 28 = .ok (.ifCond .eq 15, 3) := by decide +kernel
theorem dX10_beat_31 : decode cX10_beat 31 = .ok (.iload 4, 2) := by decide +kernel
theorem dX10_beat_33 : decode cX10_beat 33 = .ok (.iconst 0, 1) := by decide +kernel
theorem dX10_beat_34 : decode cX10_beat 34 = .ok (.sipush 10000, 3) := by decide +kernel
theorem dX10_beat_37 : decode cX10_beat 37 = .ok (.invokestatic 90, 3) := by decide +kernel
theorem dX10_beat_40 : decode cX10_beat 40 = .ok (.ifCond .ne 6, 3) := by decide +kernel
theorem dX10_beat_43 : decode cX10_beat 43 = .ok (.ldc 57, 2) := by decide +kernel
theorem dX10_beat_45 : decode cX10_beat 45 = .ok (.ireturn, 1) := by decide +kernel
theorem dX10_beat_46 : decode cX10_beat 46 = .ok (.aload_n 0, 1) := by decide +kernel
theorem dX10_beat_47 : decode cX10_beat 47 = .ok (.getfield 17, 3) := by decide +kernel
theorem dX10_beat_50 : decode cX10_beat 50 = .ok (.iload_n 1, 1) := by decide +kernel
theorem dX10_beat_51 : decode cX10_beat 51 = .ok (.aaload, 1) := by decide +kernel
theorem dX10_beat_52 : decode cX10_beat 52 = .ok (.astore 6, 2) := by decide +kernel
theorem dX10_beat_54 : decode cX10_beat 54 = .ok (.aload 6, 2) := by decide +kernel
theorem dX10_beat_56 : decode cX10_beat 56 = .ok (.instanceof 117, 3) := by decide +kernel
theorem dX10_beat_59 : decode cX10_beat 59 = .ok (.ifCond .eq 13, 3) := by decide +kernel
theorem dX10_beat_62 : decode cX10_beat 62 = .ok (.aload 6, 2) := by decide +kernel
theorem dX10_beat_64 : decode cX10_beat 64 = .ok (.checkcast 117, 3) := by decide +kernel
theorem dX10_beat_67 : decode cX10_beat 67 = .ok (.astore 5, 2) := by decide +kernel
theorem dX10_beat_69 : decode cX10_beat 69 = .ok (.goto 9, 3) := by decide +kernel
theorem dX10_beat_72 : decode cX10_beat 72 = .ok (.aload_n 0, 1) := by decide +kernel
theorem dX10_beat_73 : decode cX10_beat 73 = .ok (.iload_n 1, 1) := by decide +kernel
theorem dX10_beat_74 : decode cX10_beat 74 = .ok (.invokevirtual 145, 3) := by decide +kernel
theorem dX10_beat_77 : decode cX10_beat 77 = .ok (.ireturn, 1) := by decide +kernel
theorem dX10_beat_78 : decode cX10_beat 78 = .ok (.aload_n 0, 1) := by decide +kernel
theorem dX10_beat_79 : decode cX10_beat 79 = .ok (.aload 5, 2) := by decide +kernel
theorem dX10_beat_81 : decode cX10_beat 81 = .ok (.iload_n 2, 1) := by decide +kernel
theorem dX10_beat_82 : decode cX10_beat 82 = .ok (.iload_n 3, 1) := by decide +kernel
theorem dX10_beat_83 : decode cX10_beat 83 = .ok (.iload 4, 2) := by decide +kernel
theorem dX10_beat_85 : decode cX10_beat 85 = .ok (.invokevirtual 251, 3) := by decide +kernel
theorem dX10_beat_88 : decode cX10_beat 88 = .ok (.invokevirtual 65, 3) := by decide +kernel
theorem dX10_beat_91 : decode cX10_beat 91 = .ok (.ireturn, 1) := by decide +kernel
theorem dX10_warmth_0 : decode cX10_warmth 0 = .ok (.iload_n 1, 1) := by decide +kernel
theorem dX10_warmth_1 : decode cX10_warmth 1 = .ok (.bipush 10, 2) := by decide +kernel
theorem dX10_warmth_3 : decode cX10_warmth 3 = .ok (.invokestatic 53, 3) := by decide +kernel
theorem dX10_warmth_6 : decode cX10_warmth 6 = .ok (.ifCond .ne 6, 3) := by decide +kernel
theorem dX10_warmth_9 : decode cX10_warmth 9 = .ok (.ldc 57, 2) := by decide +kernel
theorem dX10_warmth_11 : decode cX10_warmth 11 = .ok (.ireturn, 1) := by decide +kernel
theorem dX10_warmth_12 : decode cX10_warmth 12 = .ok (.aload_n 0, 1) := by decide +kernel
theorem dX10_warmth_13 : decode cX10_warmth 13 = .ok (.getfield 17, 3) := by decide +kernel
theorem dX10_warmth_16 : decode cX10_warmth 16 = .ok (.iload_n 1, 1) := by decide +kernel
theorem dX10_warmth_17 : decode cX10_warmth 17 = .ok (.aaload, 1) := by decide +kernel
theorem dX10_warmth_18 : decode cX10_warmth 18 = .ok (.astore 4, 2) := by decide +kernel
theorem dX10_warmth_20 : decode cX10_warmth 20 = .ok (.aload 4, 2) := by decide +kernel
theorem dX10_warmth_22 : decode cX10_warmth 22 = .ok (.instanceof 117, 3) := by decide +kernel
theorem dX10_warmth_25 : decode cX10_warmth 25 = .ok (.ifCond .eq 12, 3) := by decide +kernel
theorem dX10_warmth_28 : decode cX10_warmth 28 = .ok (.aload 4, 2) := by decide +kernel
theorem dX10_warmth_30 : decode cX10_warmth 30 = .ok (.checkcast 117, 3) := by decide +kernel
theorem dX10_warmth_33 : decode cX10_warmth 33 = .ok (.astore_n 3, 1) := by decide +kernel
theorem dX10_warmth_34 : decode cX10_warmth 34 = .ok (.goto 9, 3) := by decide +kernel
theorem dX10_warmth_37 : decode cX10_warmth 37 = .ok (.aload_n 0, 1) := by decide +kernel
theorem dX10_warmth_38 : decode cX10_warmth 38 = .ok (.iload_n 1, 1) := by decide +kernel
theorem dX10_warmth_39 : decode cX10_warmth 39 = .ok (.invokevirtual 145, 3) := by decide +kernel
theorem dX10_warmth_42 : decode cX10_warmth 42 = .ok (.ireturn, 1) := by decide +kernel
theorem dX10_warmth_43 : decode cX10_warmth 43 = .ok (.iload_n 2, 1) := by decide +kernel
theorem dX10_warmth_44 : decode cX10_warmth 44 = .ok (.ldc 210, 2) := by decide +kernel
theorem dX10_warmth_46 : decode cX10_warmth 46 = .ok (.if_icmp .ne 12, 3) := by decide +kernel
theorem dX10_warmth_49 : decode cX10_warmth 49 = .ok (.aload_n 0, 1) := by decide +kernel
theorem dX10_warmth_50 : decode cX10_warmth 50 = .ok (.aload_n 3, 1) := by decide +kernel
theorem dX10_warmth_51 : decode cX10_warmth 51 = .ok (.getfield 254, 3) := by decide +kernel
theorem dX10_warmth_54 : decode cX10_warmth 54 = .ok (.invokevirtual 65, 3) := by decide +kernel
theorem dX10_warmth_57 : decode cX10_warmth 57 = .ok (.ireturn, 1) := by decide +kernel
theorem dX10_warmth_58 : decode cX10_warmth 58 = .ok (.iload_n 2, 1) := by decide +kernel
theorem dX10_warmth_59 : decode cX10_warmth 59 = .ok (.aload_n 3, 1) := by decide +kernel
theorem dX10_warmth_60 : decode cX10_warmth 60 = .ok (.getfield 257, 3) := by decide +kernel
theorem dX10_warmth_63 : decode cX10_warmth 63 = .ok (.arraylength, 1) := by decide +kernel
theorem dX10_warmth_64 : decode cX10_warmth 64 = .ok (.invokestatic 53, 3) := by decide +kernel
theorem dX10_warmth_67 : decode cX10_warmth 67 = .ok (.ifCond .ne 6, 3) := by decide +kernel
theorem dX10_warmth_70 : decode cX10_warmth 70 = .ok (.ldc 57, 2) := by decide +kernel
theorem dX10_warmth_72 : decode cX10_warmth 72 = .ok (.ireturn, 1) := by decide +kernel
theorem dX10_warmth_73 : decode cX10_warmth 73 = .ok (.aload_n 0, 1) := by decide +kernel
theorem dX10_warmth_74 : decode cX10_warmth 74 = .ok (.aload_n 3, 1) := by decide +kernel
theorem dX10_warmth_75 : decode cX10_warmth 75 = .ok (.getfield 257, 3) := by decide +kernel
theorem dX10_warmth_78 : decode cX10_warmth 78 = .ok (.iload_n 2, 1) := by decide +kernel
theorem dX10_warmth_79 : decode cX10_warmth 79 = .ok (.iaload, 1) := by decide +kernel
theorem dX10_warmth_80 : decode cX10_warmth 80 = .ok (.invokevirtual 65, 3) := by decide +kernel
theorem dX10_warmth_83 : decode cX10_warmth 83 = .ok (.ireturn, 1) := by decide +kernel
theorem dX10_press_0 : decode cX10_press 0 = .ok (.iload_n 1, 1) := by decide +kernel
theorem dX10_press_1 : decode cX10_press 1 = .ok (.iconst 0, 1) := by decide +kernel
theorem dX10_press_2 : decode cX10_press 2 = .ok (.ldc_w 260, 3) := by decide +kernel
theorem dX10_press_5 : decode cX10_press 5 = .ok (.invokestatic 90, 3) := by decide +kernel
theorem dX10_press_8 : decode cX10_press 8 = .ok (.ifCond .ne 6, 3) := by decide +kernel
theorem dX10_press_11 : decode cX10_press 11 = .ok (.ldc 57, 2) := by decide +kernel
theorem dX10_press_13 : decode cX10_press 13 = .ok (.ireturn, 1) := by decide +kernel
theorem dX10_press_14 : decode cX10_press 14 = .ok (.aload_n 0, 1) := by decide +kernel
theorem dX10_press_15 : decode cX10_press 15 = .ok (.getfield 45, 3) := by decide +kernel
theorem dX10_press_18 : decode cX10_press 18 = .ok (.iload_n 1, 1) := by decide +kernel
theorem dX10_press_19 : decode cX10_press 19 = .ok (.invokevirtual 261, 3) := by decide +kernel
theorem dX10_press_22 : decode cX10_press 22 = .ok (.ireturn, 1) := by decide +kernel
theorem dX10_job_0 : decode cX10_job 0 = .ok (.iload_n 1, 1) := by decide +kernel
theorem dX10_job_1 : decode cX10_job 1 = .ok (.iconst 0, 1) := by decide +kernel
theorem dX10_job_2 : decode cX10_job 2 = .ok (.ldc_w 260, 3) := by decide +kernel
theorem dX10_job_5 : decode cX10_job 5 = .ok (.invokestatic 90, 3) := by decide +kernel
theorem dX10_job_8 : decode cX10_job 8 = .ok (.ifCond .eq 12, 3) := by decide +kernel
theorem dX10_job_11 : decode cX10_job 11 = .ok (.iload_n 2, 1) := by decide +kernel
theorem dX10_job_12 : decode cX10_job 12 = .ok (.bipush 10, 2) := by decide +kernel
theorem dX10_job_14 : decode cX10_job 14 = .ok (.invokestatic 53, 3) := by decide +kernel
theorem dX10_job_17 : decode cX10_job 17 = .ok (.ifCond .ne 6, 3) := by decide +kernel
theorem dX10_job_20 : decode cX10_job 20 = .ok (.ldc 57, 2) := by decide +kernel
theorem dX10_job_22 : decode cX10_job 22 = .ok (.ireturn, 1) := by decide +kernel
theorem dX10_job_23 : decode cX10_job 23 = .ok (.iload_n 3, 1) := by decide +kernel
theorem dX10_job_24 : decode cX10_job 24 = .ok (.iconst 1, 1) := by decide +kernel
theorem dX10_job_25 : decode cX10_job 25 = .ok (.sipush 1000, 3) := by decide +kernel
theorem dX10_job_28 : decode cX10_job 28 = .ok (.invokestatic 90, 3) := by decide +kernel
theorem dX10_job_31 : decode cX10_job 31 = .ok (.ifCond .ne 6, 3) := by decide +kernel
theorem dX10_job_34 : decode cX10_job 34 = .ok (.ldc 57, 2) := by decide +kernel
theorem dX10_job_36 : decode cX10_job 36 = .ok (.ireturn, 1) := by decide +kernel
theorem dX10_job_37 : decode cX10_job 37 = .ok (.aload_n 0, 1) := by decide +kernel
theorem dX10_job_38 : decode cX10_job 38 = .ok (.getfield 45, 3) := by decide +kernel
theorem dX10_job_41 : decode cX10_job 41 = .ok (.iload_n 1, 1) := by decide +kernel
theorem dX10_job_42 : decode cX10_job 42 = .ok (.iload_n 2, 1) := by decide +kernel
theorem dX10_job_43 : decode cX10_job 43 = .ok (.iload_n 3, 1) := by decide +kernel
theorem dX10_job_44 : decode cX10_job 44 = .ok (.invokevirtual 264, 3) := by decide +kernel
theorem dX10_job_47 : decode cX10_job 47 = .ok (.ireturn, 1) := by decide +kernel
theorem dX10_plan_0 : decode cX10_plan 0 = .ok (.aload_n 0, 1) := by decide +kernel
theorem dX10_plan_1 : decode cX10_plan 1 = .ok (.getfield 45, 3) := by decide +kernel
theorem dX10_plan_4 : decode cX10_plan 4 = .ok (.invokevirtual 267, 3) := by decide +kernel
theorem dX10_plan_7 : decode cX10_plan 7 = .ok (.ireturn, 1) := by decide +kernel
theorem dX10_planned_0 : decode cX10_planned 0 = .ok (.iload_n 1, 1) := by decide +kernel
theorem dX10_planned_1 : decode cX10_planned 1 = .ok (.aload_n 0, 1) := by decide +kernel
theorem dX10_planned_2 : decode cX10_planned 2 = .ok (.getfield 45, 3) := by decide +kernel
theorem dX10_planned_5 : decode cX10_planned 5 = .ok (.getfield 270, 3) := by decide +kernel
theorem dX10_planned_8 : decode cX10_planned 8 = .ok (.invokestatic 53, 3) := by decide +kernel
theorem dX10_planned_11 : decode cX10_planned 11 = .ok (.ifCond .ne 6, 3) := by decide +kernel
theorem dX10_planned_14 : decode cX10_planned 14 = .ok (.ldc 57, 2) := by decide +kernel
theorem dX10_planned_16 : decode cX10_planned 16 = .ok (.ireturn, 1) := by decide +kernel
theorem dX10_planned_17 : decode cX10_planned 17 = .ok (.aload_n 0, 1) := by decide +kernel
theorem dX10_planned_18 : decode cX10_planned 18 = .ok (.getfield 45, 3) := by decide +kernel
theorem dX10_planned_21 : decode cX10_planned 21 = .ok (.iload_n 1, 1) := by decide +kernel
theorem dX10_planned_22 : decode cX10_planned 22 = .ok (.iload_n 2, 1) := by decide +kernel
theorem dX10_planned_23 : decode cX10_planned 23 = .ok (.invokevirtual 273, 3) := by decide +kernel
theorem dX10_planned_26 : decode cX10_planned 26 = .ok (.ireturn, 1) := by decide +kernel
theorem dX10_load_0 : decode cX10_load 0 = .ok (.iload_n 1, 1) := by decide +kernel
theorem dX10_load_1 : decode cX10_load 1 = .ok (.aload_n 0, 1) := by decide +kernel
theorem dX10_load_2 : decode cX10_load 2 = .ok (.getfield 45, 3) := by decide +kernel
theorem dX10_load_5 : decode cX10_load 5 = .ok (.getfield 270, 3) := by decide +kernel
theorem dX10_load_8 : decode cX10_load 8 = .ok (.invokestatic 53, 3) := by decide +kernel
theorem dX10_load_11 : decode cX10_load 11 = .ok (.ifCond .ne 6, 3) := by decide +kernel
theorem dX10_load_14 : decode cX10_load 14 = .ok (.ldc 57, 2) := by decide +kernel
theorem dX10_load_16 : decode cX10_load 16 = .ok (.ireturn, 1) := by decide +kernel
theorem dX10_load_17 : decode cX10_load 17 = .ok (.iload_n 2, 1) := by decide +kernel
theorem dX10_load_18 : decode cX10_load 18 = .ok (.ifCond .ne 13, 3) := by decide +kernel
theorem dX10_load_21 : decode cX10_load 21 = .ok (.aload_n 0, 1) := by decide +kernel
theorem dX10_load_22 : decode cX10_load 22 = .ok (.getfield 45, 3) := by decide +kernel
theorem dX10_load_25 : decode cX10_load 25 = .ok (.getfield 276, 3) := by decide +kernel
theorem dX10_load_28 : decode cX10_load 28 = .ok (.iload_n 1, 1) := by decide +kernel
theorem dX10_load_29 : decode cX10_load 29 = .ok (.iaload, 1) := by decide +kernel
theorem dX10_load_30 : decode cX10_load 30 = .ok (.ireturn, 1) := by decide +kernel
theorem dX10_load_31 : decode cX10_load 31 = .ok (.iload_n 2, 1) := by decide +kernel
theorem dX10_load_32 : decode cX10_load 32 = .ok (.iconst 1, 1) := by decide +kernel
theorem dX10_load_33 : decode cX10_load 33 = .ok (.if_icmp .ne 13, 3) := by decide +kernel
theorem dX10_load_36 : decode cX10_load 36 = .ok (.aload_n 0, 1) := by decide +kernel
theorem dX10_load_37 : decode cX10_load 37 = .ok (.getfield 45, 3) := by decide +kernel
theorem dX10_load_40 : decode cX10_load 40 = .ok (.getfield 279, 3) := by decide +kernel
theorem dX10_load_43 : decode cX10_load 43 = .ok (.iload_n 1, 1) := by decide +kernel
theorem dX10_load_44 : decode cX10_load 44 = .ok (.iaload, 1) := by decide +kernel
theorem dX10_load_45 : decode cX10_load 45 = .ok (.ireturn, 1) := by decide +kernel
theorem dX10_load_46 : decode cX10_load 46 = .ok (.iload_n 2, 1) := by decide +kernel
theorem dX10_load_47 : decode cX10_load 47 = .ok (.iconst 2, 1) := by decide +kernel
theorem dX10_load_48 : decode cX10_load 48 = .ok (.if_icmp .ne 12, 3) := by decide +kernel
theorem dX10_load_51 : decode cX10_load 51 = .ok (.aload_n 0, 1) := by decide +kernel
theorem dX10_load_52 : decode cX10_load 52 = .ok (.getfield 45, 3) := by decide +kernel
theorem dX10_load_55 : decode cX10_load 55 = .ok (.iload_n 1, 1) := by decide +kernel
theorem dX10_load_56 : decode cX10_load 56 = .ok (.invokevirtual 282, 3) := by decide +kernel
theorem dX10_load_59 : decode cX10_load 59 = .ok (.ireturn, 1) := by decide +kernel
theorem dX10_load_60 : decode cX10_load 60 = .ok (.ldc 57, 2) := by decide +kernel
theorem dX10_load_62 : decode cX10_load 62 = .ok (.ireturn, 1) := by decide +kernel
theorem dX10_count_0 : decode cX10_count 0 = .ok (.iload_n 1, 1) := by decide +kernel
theorem dX10_count_1 : decode cX10_count 1 = .ok (.ifCond .ne 8, 3) := by decide +kernel
theorem dX10_count_4 : decode cX10_count 4 = .ok (.aload_n 0, 1) := by decide +kernel
theorem dX10_count_5 : decode cX10_count 5 = .ok (.invokevirtual 285, 3) := by decide +kernel
theorem dX10_count_8 : decode cX10_count 8 = .ok (.ireturn, 1) := by decide +kernel
theorem dX10_count_9 : decode cX10_count 9 = .ok (.iload_n 1, 1) := by decide +kernel
theorem dX10_count_10 : decode cX10_count 10 = .ok (.iconst 1, 1) := by decide +kernel
theorem dX10_count_11 : decode cX10_count 11 = .ok (.if_icmp .ne 9, 3) := by decide +kernel
theorem dX10_count_14 : decode cX10_count 14 = .ok (.aload_n 0, 1) := by decide +kernel
theorem dX10_count_15 : decode cX10_count 15 = .ok (.iconst 0, 1) := by decide +kernel
theorem dX10_count_16 : decode cX10_count 16 = .ok (.invokevirtual 288, 3) := by decide +kernel
theorem dX10_count_19 : decode cX10_count 19 = .ok (.ireturn, 1) := by decide +kernel
theorem dX10_count_20 : decode cX10_count 20 = .ok (.iload_n 1, 1) := by decide +kernel
theorem dX10_count_21 : decode cX10_count 21 = .ok (.iconst 2, 1) := by decide +kernel
theorem dX10_count_22 : decode cX10_count 22 = .ok (.if_icmp .ne 9, 3) := by decide +kernel
theorem dX10_count_25 : decode cX10_count 25 = .ok (.aload_n 0, 1) := by decide +kernel
theorem dX10_count_26 : decode cX10_count 26 = .ok (.iconst 1, 1) := by decide +kernel
theorem dX10_count_27 : decode cX10_count 27 = .ok (.invokevirtual 288, 3) := by decide +kernel
theorem dX10_count_30 : decode cX10_count 30 = .ok (.ireturn, 1) := by decide +kernel
theorem dX10_count_31 : decode cX10_count 31 = .ok (.iload_n 1, 1) := by decide +kernel
theorem dX10_count_32 : decode cX10_count 32 = .ok (.iconst 3, 1) := by decide +kernel
theorem dX10_count_33 : decode cX10_count 33 = .ok (.if_icmp .ne 9, 3) := by decide +kernel
theorem dX10_count_36 : decode cX10_count 36 = .ok (.aload_n 0, 1) := by decide +kernel
theorem dX10_count_37 : decode cX10_count 37 = .ok (.iconst 2, 1) := by decide +kernel
theorem dX10_count_38 : decode cX10_count 38 = .ok (.invokevirtual 288, 3) := by decide +kernel
theorem dX10_count_41 : decode cX10_count 41 = .ok (.ireturn, 1) := by decide +kernel
theorem dX10_count_42 : decode cX10_count 42 = .ok (.iload_n 1, 1) := by decide +kernel
theorem dX10_count_43 : decode cX10_count 43 = .ok (.iconst 4, 1) := by decide +kernel
theorem dX10_count_44 : decode cX10_count 44 = .ok (.if_icmp .ne 11, 3) := by decide +kernel
theorem dX10_count_47 : decode cX10_count 47 = .ok (.aload_n 0, 1) := by decide +kernel
theorem dX10_count_48 : decode cX10_count 48 = .ok (.getfield 38, 3) := by decide +kernel
theorem dX10_count_51 : decode cX10_count 51 = .ok (.getfield 211, 3) := by decide +kernel
theorem dX10_count_54 : decode cX10_count 54 = .ok (.ireturn, 1) := by decide +kernel
theorem dX10_count_55 : decode cX10_count 55 = .ok (.iload_n 1, 1) := by decide +kernel
theorem dX10_count_56 : decode cX10_count 56 = .ok (.iconst 5, 1) := by decide +kernel
theorem dX10_count_57 : decode cX10_count 57 = .ok (.if_icmp .ne 11, 3) := by decide +kernel
theorem dX10_count_60 : decode cX10_count 60 = .ok (.aload_n 0, 1) := by decide +kernel
theorem dX10_count_61 : decode cX10_count 61 = .ok (.getfield 45, 3) := by decide +kernel
theorem dX10_count_64 : decode cX10_count 64 = .ok (.getfield 270, 3) := by decide +kernel
theorem dX10_count_67 : decode cX10_count 67 = .ok (.ireturn, 1) := by decide +kernel
theorem dX10_count_68 : decode cX10_count 68 = .ok (.iload_n 1, 1) := by decide +kernel
theorem dX10_count_69 : decode cX10_count 69 = .ok (.bipush 6, 2) := by decide +kernel
theorem dX10_count_71 : decode cX10_count 71 = .ok (.if_icmp .ne 11, 3) := by decide +kernel
theorem dX10_count_74 : decode cX10_count 74 = .ok (.aload_n 0, 1) := by decide +kernel
theorem dX10_count_75 : decode cX10_count 75 = .ok (.getfield 45, 3) := by decide +kernel
theorem dX10_count_78 : decode cX10_count 78 = .ok (.getfield 291, 3) := by decide +kernel
theorem dX10_count_81 : decode cX10_count 81 = .ok (.ireturn, 1) := by decide +kernel
theorem dX10_count_82 : decode cX10_count 82 = .ok (.ldc 57, 2) := by decide +kernel
theorem dX10_count_84 : decode cX10_count 84 = .ok (.ireturn, 1) := by decide +kernel
theorem dX10_status_0 : decode cX10_status 0 = .ok (.aload_n 0, 1) := by decide +kernel
theorem dX10_status_1 : decode cX10_status 1 = .ok (.getfield 49, 3) := by decide +kernel
theorem dX10_status_4 : decode cX10_status 4 = .ok (.ireturn, 1) := by decide +kernel
theorem dX10_below_0 : decode cX10_below 0 = .ok (.iload_n 0, 1) := by decide +kernel
theorem dX10_below_1 : decode cX10_below 1 = .ok (.ifCond .lt 12, 3) := by decide +kernel
theorem dX10_below_4 : decode cX10_below 4 = .ok (.iload_n 0, 1) := by decide +kernel
theorem dX10_below_5 : decode cX10_below 5 = .ok (.iload_n 1, 1) := by decide +kernel
theorem dX10_below_6 : decode cX10_below 6 = .ok (.if_icmp .ge 7, 3) := by decide +kernel
theorem dX10_below_9 : decode cX10_below 9 = .ok (.iconst 1, 1) := by decide +kernel
theorem dX10_below_10 : decode cX10_below 10 = .ok (.goto 4, 3) := by decide +kernel
theorem dX10_below_13 : decode cX10_below 13 = .ok (.iconst 0, 1) := by decide +kernel
theorem dX10_below_14 : decode cX10_below 14 = .ok (.ireturn, 1) := by decide +kernel
theorem dX10_among_0 : decode cX10_among 0 = .ok (.iload_n 0, 1) := by decide +kernel
theorem dX10_among_1 : decode cX10_among 1 = .ok (.iload_n 1, 1) := by decide +kernel
theorem dX10_among_2 : decode cX10_among 2 = .ok (.if_icmp .lt 12, 3) := by decide +kernel
theorem dX10_among_5 : decode cX10_among 5 = .ok (.iload_n 0, 1) := by decide +kernel
theorem dX10_among_6 : decode cX10_among 6 = .ok (.iload_n 2, 1) := by decide +kernel
theorem dX10_among_7 : decode cX10_among 7 = .ok (.if_icmp .gt 7, 3) := by decide +kernel
theorem dX10_among_10 : decode cX10_among 10 = .ok (.iconst 1, 1) := by decide +kernel
theorem dX10_among_11 : decode cX10_among 11 = .ok (.goto 4, 3) := by decide +kernel
theorem dX10_among_14 : decode cX10_among 14 = .ok (.iconst 0, 1) := by decide +kernel
theorem dX10_among_15 : decode cX10_among 15 = .ok (.ireturn, 1) := by decide +kernel
theorem dX10_found_0 : decode cX10_found 0 = .ok (.aload_n 0, 1) := by decide +kernel
theorem dX10_found_1 : decode cX10_found 1 = .ok (.iload_n 1, 1) := by decide +kernel
theorem dX10_found_2 : decode cX10_found 2 = .ok (.putfield 49, 3) := by decide +kernel
theorem dX10_found_5 : decode cX10_found 5 = .ok (.ldc_w 294, 3) := by decide +kernel
theorem dX10_found_8 : decode cX10_found 8 = .ok (.iload_n 1, 1) := by decide +kernel
theorem dX10_found_9 : decode cX10_found 9 = .ok (.isub, 1) := by decide +kernel
theorem dX10_found_10 : decode cX10_found 10 = .ok (.ireturn, 1) := by decide +kernel
theorem dX10_fine_0 : decode cX10_fine 0 = .ok (.aload_n 0, 1) := by decide +kernel
theorem dX10_fine_1 : decode cX10_fine 1 = .ok (.iconst 0, 1) := by decide +kernel
theorem dX10_fine_2 : decode cX10_fine 2 = .ok (.putfield 49, 3) := by decide +kernel
theorem dX10_fine_5 : decode cX10_fine 5 = .ok (.iload_n 1, 1) := by decide +kernel
theorem dX10_fine_6 : decode cX10_fine 6 = .ok (.ireturn, 1) := by decide +kernel
theorem dX10_otherThing_0 : decode cX10_otherThing 0 = .ok (.aload_n 0, 1) := by decide +kernel
theorem dX10_otherThing_1 : decode cX10_otherThing 1 = .ok (.aload_n 0, 1) := by decide +kernel
theorem dX10_otherThing_2 : decode cX10_otherThing 2 = .ok (.getfield 17, 3) := by decide +kernel
theorem dX10_otherThing_5 : decode cX10_otherThing 5 = .ok (.iload_n 1, 1) := by decide +kernel
theorem dX10_otherThing_6 : decode cX10_otherThing 6 = .ok (.aaload, 1) := by decide +kernel
theorem dX10_otherThing_7 : decode cX10_otherThing 7 = .ok (.ifnonnull 7, 3) := by decide +kernel
theorem dX10_otherThing_10 : decode cX10_otherThing 10 = .ok (.iconst 1, 1) := by decide +kernel
theorem dX10_otherThing_11 : decode cX10_otherThing 11 = .ok (.goto 4, 3) := by decide +kernel
theorem dX10_otherThing_14 : decode cX10_otherThing 14 = .ok (.iconst 3, 1) := by decide +kernel
theorem dX10_otherThing_15 : decode cX10_otherThing 15 = .ok (.invokevirtual 58, 3) := by decide +kernel
theorem dX10_otherThing_18 : decode cX10_otherThing 18 = .ok (.ireturn, 1) := by decide +kernel
theorem dX10_shelve_0 : decode cX10_shelve 0 = .ok (.aload_n 0, 1) := by decide +kernel
theorem dX10_shelve_1 : decode cX10_shelve 1 = .ok (.getfield 17, 3) := by decide +kernel
theorem dX10_shelve_4 : decode cX10_shelve 4 = .ok (.iload_n 1, 1) := by decide +kernel
theorem dX10_shelve_5 : decode cX10_shelve 5 = .ok (.aload_n 2, 1) := by decide +kernel
theorem dX10_shelve_6 : decode cX10_shelve 6 = .ok (.aastore, 1) := by decide +kernel
theorem dX10_shelve_7 : decode cX10_shelve 7 = .ok (.aload_n 2, 1) := by decide +kernel
theorem dX10_shelve_8 : decode cX10_shelve 8 = .ok (.invokevirtual 122, 3) := by decide +kernel
theorem dX10_shelve_11 : decode cX10_shelve 11 = .ok (.ireturn, 1) := by decide +kernel
theorem dX10_newPart_0 : decode cX10_newPart 0 = .ok (.aload_n 2, 1) := by decide +kernel
theorem dX10_newPart_1 : decode cX10_newPart 1 = .ok (.invokestatic 295, 3) := by decide +kernel
theorem dX10_newPart_4 : decode cX10_newPart 4 = .ok (.ifCond .ne 14, 3) := by decide +kernel
theorem dX10_newPart_7 : decode cX10_newPart 7 = .ok (.new 143, 3) := by decide +kernel
theorem dX10_newPart_10 : decode cX10_newPart 10 = .ok (.dup, 1) := by decide +kernel
theorem dX10_newPart_11 : decode cX10_newPart 11 = .ok (.iload_n 0, 1) := by decide +kernel
theorem dX10_newPart_12 : decode cX10_newPart 12 = .ok (.iload_n 1, 1) := by decide +kernel
theorem dX10_newPart_13 : decode cX10_newPart 13 = .ok (.aload_n 2, 1) := by decide +kernel
theorem dX10_newPart_14 : decode cX10_newPart 14 = .ok (.invokespecial 299, 3) := by decide +kernel
theorem dX10_newPart_17 : decode cX10_newPart 17 = .ok (.areturn, 1) := by decide +kernel
theorem dX10_newPart_18 : decode cX10_newPart 18 = .ok (.aload_n 2, 1) := by decide +kernel
theorem dX10_newPart_19 : decode cX10_newPart 19 = .ok (.astore_n 3, 1) := by decide +kernel
theorem dX10_newPart_20 : decode cX10_newPart 20 = .ok (.aload_n 3, 1) := by decide +kernel
theorem dX10_newPart_21 : decode cX10_newPart 21 = .ok (.arraylength, 1) := by decide +kernel
theorem dX10_newPart_22 : decode cX10_newPart 22 = .ok (.istore 4, 2) := by decide +kernel
theorem dX10_newPart_24 : decode cX10_newPart 24 = .ok (.iconst 0, 1) := by decide +kernel
theorem dX10_newPart_25 : decode cX10_newPart 25 = .ok (.istore 5, 2) := by decide +kernel
theorem dX10_newPart_27 : decode cX10_newPart 27 = .ok (.iload 5, 2) := by decide +kernel
theorem dX10_newPart_29 : decode cX10_newPart 29 = .ok (.iload 4, 2) := by decide +kernel
theorem dX10_newPart_31 : decode cX10_newPart 31 = .ok (.if_icmp .ge 31, 3) := by decide +kernel
theorem dX10_newPart_34 : decode cX10_newPart 34 = .ok (.aload_n 3, 1) := by decide +kernel
theorem dX10_newPart_35 : decode cX10_newPart 35 = .ok (.iload 5, 2) := by decide +kernel
theorem dX10_newPart_37 : decode cX10_newPart 37 = .ok (.iaload, 1) := by decide +kernel
theorem dX10_newPart_38 : decode cX10_newPart 38 = .ok (.istore 6, 2) := by decide +kernel
theorem dX10_newPart_40 : decode cX10_newPart 40 = .ok (.iload 6, 2) := by decide +kernel
theorem dX10_newPart_42 : decode cX10_newPart 42 = .ok (.ifCond .ne 14, 3) := by decide +kernel
theorem dX10_newPart_45 : decode cX10_newPart 45 = .ok (.new 302, 3) := by decide +kernel
theorem dX10_newPart_48 : decode cX10_newPart 48 = .ok (.dup, 1) := by decide +kernel
theorem dX10_newPart_49 : decode cX10_newPart 49 = .ok (.iload_n 0, 1) := by decide +kernel
theorem dX10_newPart_50 : decode cX10_newPart 50 = .ok (.iload_n 1, 1) := by decide +kernel
theorem dX10_newPart_51 : decode cX10_newPart 51 = .ok (.aload_n 2, 1) := by decide +kernel
theorem dX10_newPart_52 : decode cX10_newPart 52 = .ok (.invokespecial 304, 3) := by decide +kernel
theorem dX10_newPart_55 : decode cX10_newPart 55 = .ok (.areturn, 1) := by decide +kernel
theorem dX10_newPart_56 : decode cX10_newPart 56 = .ok (.iinc 5 1, 3) := by decide +kernel
theorem dX10_newPart_59 : decode cX10_newPart 59 = .ok (.goto (-32), 3) := by decide +kernel
theorem dX10_newPart_62 : decode cX10_newPart 62 = .ok (.new 305, 3) := by decide +kernel
theorem dX10_newPart_65 : decode cX10_newPart 65 = .ok (.dup, 1) := by decide +kernel
theorem dX10_newPart_66 : decode cX10_newPart 66 = .ok (.iload_n 0, 1) := by decide +kernel
theorem dX10_newPart_67 : decode cX10_newPart 67 = .ok (.iload_n 1, 1) := by decide +kernel
theorem dX10_newPart_68 : decode cX10_newPart 68 = .ok (.aload_n 2, 1) := by decide +kernel
theorem dX10_newPart_69 : decode cX10_newPart 69 = .ok (.invokespecial 307, 3) := by decide +kernel
theorem dX10_newPart_72 : decode cX10_newPart 72 = .ok (.areturn, 1) := by decide +kernel
theorem dX10_allCellsAlike_0 : decode cX10_allCellsAlike 0 = .ok (.iconst 0, 1) := by decide +kernel
theorem dX10_allCellsAlike_1 : decode cX10_allCellsAlike 1 = .ok (.istore_n 1, 1) := by decide +kernel
theorem dX10_allCellsAlike_2 : decode cX10_allCellsAlike 2 = .ok (.aload_n 0, 1) := by decide +kernel
theorem dX10_allCellsAlike_3 : decode cX10_allCellsAlike 3 = .ok (.astore_n 2, 1) := by decide +kernel
theorem dX10_allCellsAlike_4 : decode cX10_allCellsAlike 4 = .ok (.aload_n 2, 1) := by decide +kernel
theorem dX10_allCellsAlike_5 : decode cX10_allCellsAlike 5 = .ok (.arraylength, 1) := by decide +kernel
theorem dX10_allCellsAlike_6 : decode cX10_allCellsAlike 6 = .ok (.istore_n 3, 1) := by decide +kernel
theorem dX10_allCellsAlike_7 : decode cX10_allCellsAlike 7 = .ok (.iconst 0, 1) := by decide +kernel
theorem dX10_allCellsAlike_8 : decode cX10_allCellsAlike 8 = .ok (.istore 4, 2) := by decide +kernel
theorem dX10_allCellsAlike_10 : decode cX10_allCellsAlike 10 = .ok (.iload 4, 2) := by decide +kernel
theorem dX10_allCellsAlike_12 : decode cX10_allCellsAlike 12 = .ok (.iload_n 3, 1) := by decide +kernel
theorem dX10_allCellsAlike_13 : decode cX10_allCellsAlike 13 = .ok (.if_icmp .ge 35, 3) := by decide +kernel
theorem dX10_allCellsAlike_16 : decode cX10_allCellsAlike 16 = .ok (.aload_n 2, 1) := by decide +kernel
theorem dX10_allCellsAlike_17 : decode cX10_allCellsAlike 17 = .ok (.iload 4, 2) := by decide +kernel
theorem dX10_allCellsAlike_19 : decode cX10_allCellsAlike 19 = .ok (.iaload, 1) := by decide +kernel
theorem dX10_allCellsAlike_20 : decode cX10_allCellsAlike 20 = .ok (.istore 5, 2) := by decide +kernel
theorem dX10_allCellsAlike_22 : decode cX10_allCellsAlike 22 = .ok (.iload_n 1, 1) := by decide +kernel
theorem dX10_allCellsAlike_23 : decode cX10_allCellsAlike 23 = .ok (.ifCond .ne 6, 3) := by decide +kernel
theorem dX10_allCellsAlike_26 : decode cX10_allCellsAlike 26 = .ok (.iload 5, 2) := by decide +kernel
theorem dX10_allCellsAlike_28 : decode cX10_allCellsAlike 28 = .ok (.istore_n 1, 1) := by decide +kernel
theorem dX10_allCellsAlike_29 : decode cX10_allCellsAlike 29 = .ok (.iload 5, 2) := by decide +kernel
theorem dX10_allCellsAlike_31 : decode cX10_allCellsAlike 31 = .ok (.ifCond .eq 11, 3) := by decide +kernel
theorem dX10_allCellsAlike_34 : decode cX10_allCellsAlike 34 = .ok (.iload 5, 2) := by decide +kernel
theorem dX10_allCellsAlike_36 : decode cX10_allCellsAlike 36 = .ok (.iload_n 1, 1) := by decide +kernel
theorem dX10_allCellsAlike_37 : decode cX10_allCellsAlike 37 = .ok (.if_icmp .eq 5, 3) := by decide +kernel
theorem dX10_allCellsAlike_40 : decode cX10_allCellsAlike 40 = .ok (.iconst 0, 1) := by decide +kernel
theorem dX10_allCellsAlike_41 : decode cX10_allCellsAlike 41 = .ok (.ireturn, 1) := by decide +kernel
theorem dX10_allCellsAlike_42 : decode cX10_allCellsAlike 42 = .ok (.iinc 4 1, 3) := by decide +kernel
theorem dX10_allCellsAlike_45 : decode cX10_allCellsAlike 45 = .ok (.goto (-35), 3) := by decide +kernel
theorem dX10_allCellsAlike_48 : decode cX10_allCellsAlike 48 = .ok (.iconst 1, 1) := by decide +kernel
theorem dX10_allCellsAlike_49 : decode cX10_allCellsAlike 49 = .ok (.ireturn, 1) := by decide +kernel
theorem dX10_isOfKind_0 : decode cX10_isOfKind 0 = .ok (.aload_n 0, 1) := by decide +kernel
theorem dX10_isOfKind_1 : decode cX10_isOfKind 1 = .ok (.ifnull 15, 3) := by decide +kernel
theorem dX10_isOfKind_4 : decode cX10_isOfKind 4 = .ok (.aload_n 0, 1) := by decide +kernel
theorem dX10_isOfKind_5 : decode cX10_isOfKind 5 = .ok (.iload_n 1, 1) := by decide +kernel
theorem dX10_isOfKind_6 : decode cX10_isOfKind 6 = .ok (.invokevirtual 308, 3) := by decide +kernel
theorem dX10_isOfKind_9 : decode cX10_isOfKind 9 = .ok (.ifCond .eq 7, 3) := by decide +kernel
theorem dX10_isOfKind_12 : decode cX10_isOfKind 12 = .ok (.iconst 1, 1) := by decide +kernel
theorem dX10_isOfKind_13 : decode cX10_isOfKind 13 = .ok (.goto 4, 3) := by decide +kernel
theorem dX10_isOfKind_16 : decode cX10_isOfKind 16 = .ok (.iconst 0, 1) := by decide +kernel
theorem dX10_isOfKind_17 : decode cX10_isOfKind 17 = .ok (.ireturn, 1) := by decide +kernel
theorem dX10_sheetsThere_0 : decode cX10_sheetsThere 0 = .ok (.iconst 0, 1) := by decide +kernel
theorem dX10_sheetsThere_1 : decode cX10_sheetsThere 1 = .ok (.istore_n 1, 1) := by decide +kernel
theorem dX10_sheetsThere_2 : decode cX10_sheetsThere 2 = .ok (.aload_n 0, 1) := by decide +kernel
theorem dX10_sheetsThere_3 : decode cX10_sheetsThere 3 = .ok (.getfield 11, 3) := by decide +kernel
theorem dX10_sheetsThere_6 : decode cX10_sheetsThere 6 = .ok (.astore_n 2, 1) := by decide +kernel
theorem dX10_sheetsThere_7 : decode cX10_sheetsThere 7 = .ok (.aload_n 2, 1) := by decide +kernel
theorem dX10_sheetsThere_8 : decode cX10_sheetsThere 8 = .ok (.arraylength, 1) := by decide +kernel
theorem dX10_sheetsThere_9 : decode cX10_sheetsThere 9 = .ok (.istore_n 3, 1) := by decide +kernel
theorem dX10_sheetsThere_10 : decode cX10_sheetsThere 10 = .ok (.iconst 0, 1) := by decide +kernel
theorem dX10_sheetsThere_11 : decode cX10_sheetsThere 11 = .ok (.istore 4, 2) := by decide +kernel
theorem dX10_sheetsThere_13 : decode cX10_sheetsThere 13 = .ok (.iload 4, 2) := by decide +kernel
theorem dX10_sheetsThere_15 : decode cX10_sheetsThere 15 = .ok (.iload_n 3, 1) := by decide +kernel
theorem dX10_sheetsThere_16 : decode cX10_sheetsThere 16 = .ok (.if_icmp .ge 23, 3) := by decide +kernel
theorem dX10_sheetsThere_19 : decode cX10_sheetsThere 19 = .ok (.aload_n 2, 1) := by decide +kernel
theorem dX10_sheetsThere_20 : decode cX10_sheetsThere 20 = .ok (.iload 4, 2) := by decide +kernel
theorem dX10_sheetsThere_22 : decode cX10_sheetsThere 22 = .ok (.aaload, 1) := by decide +kernel
theorem dX10_sheetsThere_23 : decode cX10_sheetsThere 23 = .ok (.astore 5, 2) := by decide +kernel
theorem dX10_sheetsThere_25 : decode cX10_sheetsThere 25 = .ok (.aload 5, 2) := by decide +kernel
theorem dX10_sheetsThere_27 : decode cX10_sheetsThere 27 = .ok (.ifnull 6, 3) := by decide +kernel
theorem dX10_sheetsThere_30 : decode cX10_sheetsThere 30 = .ok (.iinc 1 1, 3) := by decide +kernel
theorem dX10_sheetsThere_33 : decode cX10_sheetsThere 33 = .ok (.iinc 4 1, 3) := by decide +kernel
theorem dX10_sheetsThere_36 : decode cX10_sheetsThere 36 = .ok (.goto (-23), 3) := by decide +kernel
theorem dX10_sheetsThere_39 : decode cX10_sheetsThere 39 = .ok (.iload_n 1, 1) := by decide +kernel
theorem dX10_sheetsThere_40 : decode cX10_sheetsThere 40 = .ok (.ireturn, 1) := by decide +kernel
theorem dX10_thingsOfKind_0 : decode cX10_thingsOfKind 0 = .ok (.iconst 0, 1) := by decide +kernel
theorem dX10_thingsOfKind_1 : decode cX10_thingsOfKind 1 = .ok (.istore_n 2, 1) := by decide +kernel
theorem dX10_thingsOfKind_2 : decode cX10_thingsOfKind 2 = .ok (.aload_n 0, 1) := by decide +kernel
theorem dX10_thingsOfKind_3 : decode cX10_thingsOfKind 3 = .ok (.getfield 17, 3) := by decide +kernel
theorem dX10_thingsOfKind_6 : decode cX10_thingsOfKind 6 = .ok (.astore_n 3, 1) := by decide +kernel
theorem dX10_thingsOfKind_7 : decode cX10_thingsOfKind 7 = .ok (.aload_n 3, 1) := by decide +kernel
theorem dX10_thingsOfKind_8 : decode cX10_thingsOfKind 8 = .ok (.arraylength, 1) := by decide +kernel
theorem dX10_thingsOfKind_9 : decode cX10_thingsOfKind 9 = .ok (.istore 4, 2) := by decide +kernel
theorem dX10_thingsOfKind_11 : decode cX10_thingsOfKind 11 = .ok (.iconst 0, 1) := by decide +kernel
theorem dX10_thingsOfKind_12 : decode cX10_thingsOfKind 12 = .ok (.istore 5, 2) := by decide +kernel
theorem dX10_thingsOfKind_14 : decode cX10_thingsOfKind 14 = .ok (.iload 5, 2) := by decide +kernel
theorem dX10_thingsOfKind_16 : decode cX10_thingsOfKind 16 = .ok (.iload 4, 2) := by decide +kernel
theorem dX10_thingsOfKind_18 : decode cX10_thingsOfKind 18 = .ok (.if_icmp .ge 27, 3) := by decide +kernel
theorem dX10_thingsOfKind_21 : decode cX10_thingsOfKind 21 = .ok (.aload_n 3, 1) := by decide +kernel
theorem dX10_thingsOfKind_22 : decode cX10_thingsOfKind 22 = .ok (.iload 5, 2) := by decide +kernel
theorem dX10_thingsOfKind_24 : decode cX10_thingsOfKind 24 = .ok (.aaload, 1) := by decide +kernel
theorem dX10_thingsOfKind_25 : decode cX10_thingsOfKind 25 = .ok (.astore 6, 2) := by decide +kernel
theorem dX10_thingsOfKind_27 : decode cX10_thingsOfKind 27 = .ok (.aload 6, 2) := by decide +kernel
theorem dX10_thingsOfKind_29 : decode cX10_thingsOfKind 29 = .ok (.iload_n 1, 1) := by decide +kernel
theorem dX10_thingsOfKind_30 : decode cX10_thingsOfKind 30 = .ok (.invokestatic 126, 3) := by decide +kernel
theorem dX10_thingsOfKind_33 : decode cX10_thingsOfKind 33 = .ok (.ifCond .eq 6, 3) := by decide +kernel
theorem dX10_thingsOfKind_36 : decode cX10_thingsOfKind 36 = .ok (.iinc 2 1, 3) := by decide +kernel
theorem dX10_thingsOfKind_39 : decode cX10_thingsOfKind 39 = .ok (.iinc 5 1, 3) := by decide +kernel
theorem dX10_thingsOfKind_42 : decode cX10_thingsOfKind 42 = .ok (.goto (-28), 3) := by decide +kernel
theorem dX10_thingsOfKind_45 : decode cX10_thingsOfKind 45 = .ok (.iload_n 2, 1) := by decide +kernel
theorem dX10_thingsOfKind_46 : decode cX10_thingsOfKind 46 = .ok (.ireturn, 1) := by decide +kernel
