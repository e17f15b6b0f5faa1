theorem dX0_init_0 : decode cX0_init 0 = .ok (.aload_n 0, 1) := by decide +kernel
theorem dX0_init_1 : decode cX0_init 1 = .ok (.iload_n 1, 1) := by decide +kernel
theorem dX0_init_2 : decode cX0_init 2 = .ok (.iload_n 2, 1) := by decide +kernel
theorem dX0_init_3 : decode cX0_init 3 = .ok (.aload_n 3, 1) := by decide +kernel
theorem dX0_init_4 : decode cX0_init 4 = .ok (.invokespecial 1, 3) := by decide +kernel
theorem dX0_init_7 : decode cX0_init 7 = .ok (.return_, 1) := by decide +kernel
theorem dX0_told_0 : decode cX0_told 0 = .ok (.iconst 2, 1) := by decide +kernel
theorem dX0_told_1 : decode cX0_told 1 = .ok (.ireturn, 1) := by decide +kernel
theorem dX0_isOf_0 : decode cX0_isOf 0 = .ok (.iload_n 1, 1) := by decide +kernel
theorem dX0_isOf_1 : decode cX0_isOf 1 = .ok (.iconst 2, 1) := by decide +kernel
theorem dX0_isOf_2 : decode cX0_isOf 2 = .ok (.if_icmp .eq 11, 3) := by decide +kernel
theorem dX0_isOf_5 : decode cX0_isOf 5 = .ok (.aload_n 0, 1) := by decide +kernel
theorem dX0_isOf_6 : decode cX0_isOf 6 = .ok (.iload_n 1, 1) := by decide +kernel
theorem dX0_isOf_7 : decode cX0_isOf 7 = .ok (.invokespecial 7, 3) := by decide +kernel
theorem dX0_isOf_10 : decode cX0_isOf 10 = .ok (.ifCond .eq 7, 3) := by decide +kernel
theorem dX0_isOf_13 : decode cX0_isOf 13 = .ok (.iconst 1, 1) := by decide +kernel
theorem dX0_isOf_14 : decode cX0_isOf 14 = .ok (.goto 4, 3) := by decide +kernel
theorem dX0_isOf_17 : decode cX0_isOf 17 = .ok (.iconst 0, 1) := by decide +kernel
theorem dX0_isOf_18 : decode cX0_isOf 18 = .ok (.ireturn, 1) := by decide +kernel
theorem dX0_weigh_0 : decode cX0_weigh 0 = .ok (.aload_n 1, 1) := by decide +kernel
theorem dX0_weigh_1 : decode cX0_weigh 1 = .ok (.bipush 12, 2) := by decide +kernel
theorem dX0_weigh_3 : decode cX0_weigh 3 = .ok (.invokevirtual 11, 3) := by decide +kernel
theorem dX0_weigh_6 : decode cX0_weigh 6 = .ok (.aload_n 0, 1) := by decide +kernel
theorem dX0_weigh_7 : decode cX0_weigh 7 = .ok (.aload_n 1, 1) := by decide +kernel
theorem dX0_weigh_8 : decode cX0_weigh 8 = .ok (.invokespecial 17, 3) := by decide +kernel
theorem dX0_weigh_11 : decode cX0_weigh 11 = .ok (.aload_n 0, 1) := by decide +kernel
theorem dX0_weigh_12 : decode cX0_weigh 12 = .ok (.getfield 21, 3) := by decide +kernel
theorem dX0_weigh_15 : decode cX0_weigh 15 = .ok (.iadd, 1) := by decide +kernel
theorem dX0_weigh_16 : decode cX0_weigh 16 = .ok (.ireturn, 1) := by decide +kernel
theorem dX1_init_0 : decode cX1_init 0 = .ok (.aload_n 0, 1) := by decide +kernel
theorem dX1_init_1 : decode cX1_init 1 = .ok (.invokespecial 3, 3) := by decide +kernel
theorem dX1_init_4 : decode cX1_init 4 = .ok (.aload_n 0, 1) := by decide +kernel
theorem dX1_init_5 : decode cX1_init 5 = .ok (.sipush 144, 3) := by decide +kernel
theorem dX1_init_8 : decode cX1_init 8 = .ok (.newarray .int, 2) := by decide +kernel
theorem dX1_init_10 : decode cX1_init 10 = .ok (.putfield 9, 3) := by decide +kernel
theorem dX1_init_13 : decode cX1_init 13 = .ok (.aload_n 0, 1) := by decide +kernel
theorem dX1_init_14 : decode cX1_init 14 = .ok (.sipush 576, 3) := by decide +kernel
theorem dX1_init_17 : decode cX1_init 17 = .ok (.newarray .int, 2) := by decide +kernel
theorem dX1_init_19 : decode cX1_init 19 = .ok (.putfield 15, 3) := by decide +kernel
theorem dX1_init_22 : decode cX1_init 22 = .ok (.aload_n 0, 1) := by decide +kernel
theorem dX1_init_23 : decode cX1_init 23 = .ok (.sipush 144, 3) := by decide +kernel
theorem dX1_init_26 : decode cX1_init 26 = .ok (.newarray .int, 2) := by decide +kernel
theorem dX1_init_28 : decode cX1_init 28 = .ok (.putfield 18, 3) := by decide +kernel
theorem dX1_init_31 : decode cX1_init 31 = .ok (.aload_n 0, 1) := by decide +kernel
theorem dX1_init_32 : decode cX1_init 32 = .ok (.sipush 144, 3) := by decide +kernel
theorem dX1_init_35 : decode cX1_init 35 = .ok (.newarray .int, 2) := by decide +kernel
theorem dX1_init_37 : decode cX1_init 37 = .ok (.putfield 21, 3) := by decide +kernel
theorem dX1_init_40 : decode cX1_init 40 = .ok (.aload_n 0, 1) := by decide +kernel
theorem dX1_init_41 : decode cX1_init 41 = .ok (.sipush 144, 3) := by decide +kernel
theorem dX1_init_44 : decode cX1_init 44 = .ok (.newarray .int, 2) := by decide +kernel
theorem dX1_init_46 : decode cX1_init 46 = .ok (.putfield 24, 3) := by decide +kernel
theorem dX1_init_49 : decode cX1_init 49 = .ok (.aload_n 0, 1) := by decide +kernel
theorem dX1_init_50 : decode cX1_init 50 = .ok (.sipush 144, 3) := by decide +kernel
theorem dX1_init_53 : decode cX1_init 53 = .ok (.newarray .int, 2) := by decide +kernel
theorem dX1_init_55 : decode cX1_init 55 = .ok (.putfield 27, 3) := by decide +kernel
theorem dX1_init_58 : decode cX1_init 58 = .ok (.aload_n 0, 1) := by decide +kernel
theorem dX1_init_59 : decode cX1_init 59 = .ok (.iconst 0, 1) := by decide +kernel
theorem dX1_init_60 : decode cX1_init 60 = .ok (.putfield 30, 3) := by decide +kernel
theorem dX1_init_63 : decode cX1_init 63 = .ok (.aload_n 0, 1) := by decide +kernel
theorem dX1_init_64 : decode cX1_init 64 = .ok (.iconst 0, 1) := by decide +kernel
theorem dX1_init_65 : decode cX1_init 65 = .ok (.putfield 34, 3) := by decide +kernel
theorem dX1_init_68 : decode cX1_init 68 = .ok (.aload_n 0, 1) := by decide +kernel
theorem dX1_init_69 : decode cX1_init 69 = .ok (.aconst_null, 1) := by decide +kernel
theorem dX1_init_70 : decode cX1_init 70 = .ok (.putfield 37, 3) := by decide +kernel
theorem dX1_init_73 : decode cX1_init 73 = .ok (.aload_n 0, 1) := by decide +kernel
theorem dX1_init_74 : decode cX1_init 74 = .ok (.iconst 0, 1) := by decide +kernel
theorem dX1_init_75 : decode cX1_init 75 = .ok (.putfield 41, 3) := by decide +kernel
theorem dX1_init_78 : decode cX1_init 78 = .ok (.return_, 1) := by decide +kernel
theorem dX1_fill_0 : decode cX1_fill 0 = .ok (.aload_n 0, 1) := by decide +kernel
theorem dX1_fill_1 : decode cX1_fill 1 = .ok (.getfield 37, 3) := by decide +kernel
theorem dX1_fill_4 : decode cX1_fill 4 = .ok (.aload_n 1, 1) := by decide +kernel
theorem dX1_fill_5 : decode cX1_fill 5 = .ok (.if_acmp .ne 15, 3) := by decide +kernel
theorem dX1_fill_8 : decode cX1_fill 8 = .ok (.aload_n 0, 1) := by decide +kernel
theorem dX1_fill_9 : decode cX1_fill 9 = .ok (.getfield 41, 3) := by decide +kernel
theorem dX1_fill_12 : decode cX1_fill 12 = .ok (.aload_n 1, 1) := by decide +kernel
theorem dX1_fill_13 : decode cX1_fill 13 = .ok (.getfield 44, 3) := by decide +kernel
theorem dX1_fill_16 : decode cX1_fill 16 = .ok (.if_icmp .ne 4, 3) := by decide +kernel
theorem dX1_fill_19 : decode cX1_fill 19 = .ok (.return_, 1) := by decide +kernel
theorem dX1_fill_20 : decode cX1_fill 20 = .ok (.aload_n 0, 1) := by decide +kernel
theorem dX1_fill_21 : decode cX1_fill 21 = .ok (.aload_n 1, 1) := by decide +kernel
theorem dX1_fill_22 : decode cX1_fill 22 = .ok (.invokevirtual 49, 3) := by decide +kernel
theorem dX1_fill_25 : decode cX1_fill 25 = .ok (.iconst 0, 1) := by decide +kernel
theorem dX1_fill_26 : decode cX1_fill 26 = .ok (.istore_n 2, 1) := by decide +kernel
theorem dX1_fill_27 : decode cX1_fill 27 = .ok (.iload_n 2, 1) := by decide +kernel
theorem dX1_fill_28 : decode cX1_fill 28 = .ok (.aload_n 1, 1) := by decide +kernel
theorem dX1_fill_29 : decode cX1_fill 29 = .ok (.getfield 44, 3) := by decide +kernel
theorem dX1_fill_32 : decode cX1_fill 32 = .ok (.if_icmp .ge 20, 3) := by decide +kernel
theorem dX1_fill_35 : decode cX1_fill 35 = .ok (.aload_n 0, 1) := by decide +kernel
theorem dX1_fill_36 : decode cX1_fill 36 = .ok (.aload_n 1, 1) := by decide +kernel
theorem dX1_fill_37 : decode cX1_fill 37 = .ok (.getfield 53, 3) := by decide +kernel
theorem dX1_fill_40 : decode cX1_fill 40 = .ok (.iload_n 2, 1) := by decide +kernel
theorem dX1_fill_41 : decode cX1_fill 41 = .ok (.iaload, 1) := by decide +kernel
theorem dX1_fill_42 : decode cX1_fill 42 = .ok (.iload_n 2, 1) := by decide +kernel
theorem dX1_fill_43 : decode cX1_fill 43 = .ok (.invokevirtual 56, 3) := by decide +kernel
theorem dX1_fill_46 : decode cX1_fill 46 = .ok (.iinc 2 1, 3) := by decide +kernel
theorem dX1_fill_49 : decode cX1_fill 49 = .ok (.goto (-22), 3) := by decide +kernel
theorem dX1_fill_52 : decode cX1_fill 52 = .ok (.aload_n 0, 1) := by decide +kernel
theorem dX1_fill_53 : decode cX1_fill 53 = .ok (.invokevirtual 60, 3) := by decide +kernel
theorem dX1_fill_56 : decode cX1_fill 56 = .ok (.aload_n 0, 1) := by decide +kernel
theorem dX1_fill_57 : decode cX1_fill 57 = .ok (.invokevirtual 63, 3) := by decide +kernel
theorem dX1_fill_60 : decode cX1_fill 60 = .ok (.aload_n 0, 1) := by decide +kernel
theorem dX1_fill_61 : decode cX1_fill 61 = .ok (.aload_n 1, 1) := by decide +kernel
theorem dX1_fill_62 : decode cX1_fill 62 = .ok (.putfield 37, 3) := by decide +kernel
theorem dX1_fill_65 : decode cX1_fill 65 = .ok (.aload_n 0, 1) := by decide +kernel
theorem dX1_fill_66 : decode cX1_fill 66 = .ok (.aload_n 1, 1) := by decide +kernel
theorem dX1_fill_67 : decode cX1_fill 67 = .ok (.getfield 44, 3) := by decide +kernel
theorem dX1_fill_70 : decode cX1_fill 70 = .ok (.putfield 41, 3) := by decide +kernel
theorem dX1_fill_73 : decode cX1_fill 73 = .ok (.return_, 1) := by decide +kernel
theorem dX1_endsOf_0 : decode cX1_endsOf 0 = .ok (.aload_n 0, 1) := by decide +kernel
theorem dX1_endsOf_1 : decode cX1_endsOf 1 = .ok (.aload_n 1, 1) := by decide +kernel
theorem dX1_endsOf_2 : decode cX1_endsOf 2 = .ok (.invokevirtual 66, 3) := by decide +kernel
theorem dX1_endsOf_5 : decode cX1_endsOf 5 = .ok (.aload_n 0, 1) := by decide +kernel
theorem dX1_endsOf_6 : decode cX1_endsOf 6 = .ok (.getfield 34, 3) := by decide +kernel
theorem dX1_endsOf_9 : decode cX1_endsOf 9 = .ok (.ifCond .le 21, 3) := by decide +kernel
theorem dX1_endsOf_12 : decode cX1_endsOf 12 = .ok (.aload_n 0, 1) := by decide +kernel
theorem dX1_endsOf_13 : decode cX1_endsOf 13 = .ok (.aload_n 0, 1) := by decide +kernel
theorem dX1_endsOf_14 : decode cX1_endsOf 14 = .ok (.getfield 21, 3) := by decide +kernel
theorem dX1_endsOf_17 : decode cX1_endsOf 17 = .ok (.aload_n 0, 1) := by decide +kernel
theorem dX1_endsOf_18 : decode cX1_endsOf 18 = .ok (.getfield 34, 3) := by decide +kernel
theorem dX1_endsOf_21 : decode cX1_endsOf 21 = .ok (.iconst 1, 1) := by decide +kernel
theorem dX1_endsOf_22 : decode cX1_endsOf 22 = .ok (.isub, 1) := by decide +kernel
theorem dX1_endsOf_23 : decode cX1_endsOf 23 = .ok (.iaload, 1) := by decide +kernel
theorem dX1_endsOf_24 : decode cX1_endsOf 24 = .ok (.invokevirtual 69, 3) := by decide +kernel
theorem dX1_endsOf_27 : decode cX1_endsOf 27 = .ok (.goto 4, 3) := by decide +kernel
theorem dX1_endsOf_30 : decode cX1_endsOf 30 = .ok (.iconst 0, 1) := by decide +kernel
theorem dX1_endsOf_31 : decode cX1_endsOf 31 = .ok (.ireturn, 1) := by decide +kernel
theorem dX1_strain_0 : decode cX1_strain 0 = .ok (.aload_n 0, 1) := by decide +kernel
theorem dX1_strain_1 : decode cX1_strain 1 = .ok (.iload_n 1, 1) := by decide +kernel
theorem dX1_strain_2 : decode cX1_strain 2 = .ok (.invokevirtual 73, 3) := by decide +kernel
theorem dX1_strain_5 : decode cX1_strain 5 = .ok (.ifCond .eq 14, 3) := by decide +kernel
theorem dX1_strain_8 : decode cX1_strain 8 = .ok (.aload_n 0, 1) := by decide +kernel
theorem dX1_strain_9 : decode cX1_strain 9 = .ok (.getfield 18, 3) := by decide +kernel
theorem dX1_strain_12 : decode cX1_strain 12 = .ok (.iload_n 1, 1) := by decide +kernel
theorem dX1_strain_13 : decode cX1_strain 13 = .ok (.iaload, 1) := by decide +kernel
theorem dX1_strain_14 : decode cX1_strain 14 = .ok (.iconst 4, 1) := by decide +kernel
theorem dX1_strain_15 : decode cX1_strain 15 = .ok (.idiv, 1) := by decide +kernel
theorem dX1_strain_16 : decode cX1_strain 16 = .ok (.goto 5, 3) := by decide +kernel
theorem dX1_strain_19 : decode cX1_strain 19 = .ok (.ldc 77, 2) := by decide +kernel
theorem dX1_strain_21 : decode cX1_strain 21 = .ok (.ireturn, 1) := by decide +kernel
theorem dX1_front_0 : decode cX1_front 0 = .ok (.aload_n 0, 1) := by decide +kernel
theorem dX1_front_1 : decode cX1_front 1 = .ok (.iload_n 1, 1) := by decide +kernel
theorem dX1_front_2 : decode cX1_front 2 = .ok (.invokevirtual 73, 3) := by decide +kernel
theorem dX1_front_5 : decode cX1_front 5 = .ok (.ifCond .eq 14, 3) := by decide +kernel
theorem dX1_front_8 : decode cX1_front 8 = .ok (.aload_n 0, 1) := by decide +kernel
theorem dX1_front_9 : decode cX1_front 9 = .ok (.getfield 18, 3) := by decide +kernel
theorem dX1_front_12 : decode cX1_front 12 = .ok (.iload_n 1, 1) := by decide +kernel
theorem dX1_front_13 : decode cX1_front 13 = .ok (.iaload, 1) := by decide +kernel
theorem dX1_front_14 : decode cX1_front 14 = .ok (.iconst 4, 1) := by decide +kernel
theorem dX1_front_15 : decode cX1_front 15 = .ok (.irem, 1) := by decide +kernel
theorem dX1_front_16 : decode cX1_front 16 = .ok (.goto 5, 3) := by decide +kernel
theorem dX1_front_19 : decode cX1_front 19 = .ok (.ldc 77, 2) := by decide +kernel
theorem dX1_front_21 : decode cX1_front 21 = .ok (.ireturn, 1) := by decide +kernel
theorem dX1_rank_0 : decode cX1_rank 0 = .ok (.aload_n 0, 1) := by decide +kernel
theorem dX1_rank_1 : decode cX1_rank 1 = .ok (.iload_n 1, 1) := by decide +kernel
theorem dX1_rank_2 : decode cX1_rank 2 = .ok (.invokevirtual 73, 3) := by decide +kernel
theorem dX1_rank_5 : decode cX1_rank 5 = .ok (.ifCond .eq 12, 3) := by decide +kernel
theorem dX1_rank_8 : decode cX1_rank 8 = .ok (.aload_n 0, 1) := by decide +kernel
theorem dX1_rank_9 : decode cX1_rank 9 = .ok (.getfield 24, 3) := by decide +kernel
theorem dX1_rank_12 : decode cX1_rank 12 = .ok (.iload_n 1, 1) := by decide +kernel
theorem dX1_rank_13 : decode cX1_rank 13 = .ok (.iaload, 1) := by decide +kernel
theorem dX1_rank_14 : decode cX1_rank 14 = .ok (.goto 5, 3) := by decide +kernel
theorem dX1_rank_17 : decode cX1_rank 17 = .ok (.ldc 77, 2) := by decide +kernel
theorem dX1_rank_19 : decode cX1_rank 19 = .ok (.ireturn, 1) := by decide +kernel
theorem dX1_filledUpTo_0 : decode cX1_filledUpTo 0 = .ok (.aload_n 0, 1) := by decide +kernel
theorem dX1_filledUpTo_1 : decode cX1_filledUpTo 1 = .ok (.iload_n 1, 1) := by decide +kernel
theorem dX1_filledUpTo_2 : decode cX1_filledUpTo 2 = .ok (.invokevirtual 73, 3) := by decide +kernel
theorem dX1_filledUpTo_5 : decode cX1_filledUpTo 5 = .ok (.ifCond .ne 6, 3) := by decide +kernel
theorem dX1_filledUpTo_8 : decode cX1_filledUpTo 8 = .ok (.ldc 77, 2) := by decide +kernel
theorem dX1_filledUpTo_10 : decode cX1_filledUpTo 10 = .ok (.ireturn, 1) := by decide +kernel
theorem dX1_filledUpTo_11 : decode cX1_filledUpTo 11 = .ok (.iconst 0, 1) := by decide +kernel
theorem dX1_filledUpTo_12 : decode cX1_filledUpTo 12 = .ok (.istore_n 3, 1) := by decide +kernel
theorem dX1_filledUpTo_13 : decode cX1_filledUpTo 13 = .ok (.iconst 0, 1) := by decide +kernel
theorem dX1_filledUpTo_14 : decode cX1_filledUpTo 14 = .ok (.istore 4, 2) := by decide +kernel
theorem dX1_filledUpTo_16 : decode cX1_filledUpTo 16 = .ok (.iload 4, 2) := by decide +kernel
theorem dX1_filledUpTo_18 : decode cX1_filledUpTo 18 = .ok (.aload_n 0, 1) := by decide +kernel
theorem dX1_filledUpTo_19 : decode cX1_filledUpTo 19 = .ok (.getfield 24, 3) := by decide +kernel
theorem dX1_filledUpTo_22 : decode cX1_filledUpTo 22 = .ok (.iload_n 1, 1) := by decide +kernel
theorem dX1_filledUpTo_23 : decode cX1_filledUpTo 23 = .ok (.iaload, 1) := by decide +kernel
theorem dX1_filledUpTo_24 : decode cX1_filledUpTo 24 = .ok (.if_icmp .gt 23, 3) := by decide +kernel
theorem dX1_filledUpTo_27 : decode cX1_filledUpTo 27 = .ok (.iload_n 3, 1) := by decide +kernel
theorem dX1_filledUpTo_28 : decode cX1_filledUpTo 28 = .ok (.aload_n 2, 1) := by decide +kernel
theorem dX1_filledUpTo_29 : decode cX1_filledUpTo 29 = .ok (.aload_n 0, 1) := by decide +kernel
theorem dX1_filledUpTo_30 : decode cX1_filledUpTo 30 = .ok (.getfield 21, 3) := by decide +kernel
theorem dX1_filledUpTo_33 : decode cX1_filledUpTo 33 = .ok (.iload 4, 2) := by decide +kernel
theorem dX1_filledUpTo_35 : decode cX1_filledUpTo 35 = .ok (.iaload, 1) := by decide +kernel
theorem dX1_filledUpTo_36 : decode cX1_filledUpTo 36 = .ok (.invokevirtual 78, 3) := by decide +kernel
theorem dX1_filledUpTo_39 : decode cX1_filledUpTo 39 = .ok (.iadd, 1) := by decide +kernel
theorem dX1_filledUpTo_40 : decode cX1_filledUpTo 40 = .ok (.istore_n 3, 1) := by decide +kernel
theorem dX1_filledUpTo_41 : decode cX1_filledUpTo 41 = .ok (.iinc 4 1, 3) := by decide +kernel
theorem dX1_filledUpTo_44 : decode cX1_filledUpTo 44 = .ok (.goto (-28), 3) := by decide +kernel
theorem dX1_filledUpTo_47 : decode cX1_filledUpTo 47 = .ok (.iload_n 3, 1) := by decide +kernel
theorem dX1_filledUpTo_48 : decode cX1_filledUpTo 48 = .ok (.ireturn, 1) := by decide +kernel
theorem dX1_cellOfMeeting_0 : decode cX1_cellOfMeeting 0 = .ok (.iconst 0, 1) := by decide +kernel
theorem dX1_cellOfMeeting_1 : decode cX1_cellOfMeeting 1 = .ok (.istore_n 3, 1) := by decide +kernel
theorem dX1_cellOfMeeting_2 : decode cX1_cellOfMeeting 2 = .ok (.iconst 0, 1) := by decide +kernel
theorem dX1_cellOfMeeting_3 : decode cX1_cellOfMeeting 3 = .ok (.istore 4, 2) := by decide +kernel
theorem dX1_cellOfMeeting_5 : decode cX1_cellOfMeeting 5 = .ok (.iload 4, 2) := by decide +kernel
theorem dX1_cellOfMeeting_7 : decode cX1_cellOfMeeting 7 = .ok (.aload_n 0, 1) := by decide +kernel
theorem dX1_cellOfMeeting_8 : decode cX1_cellOfMeeting 8 = .ok (.getfield 30, 3) := by decide +kernel
theorem dX1_cellOfMeeting_11 : decode cX1_cellOfMeeting 11 = .ok (.if_icmp .ge 83, 3) := by decide +kernel
theorem dX1_cellOfMeeting_14 : decode cX1_cellOfMeeting 14 = .ok (.iconst 0, 1) := by decide +kernel
theorem dX1_cellOfMeeting_15 : decode cX1_cellOfMeeting 15 = .ok (.istore 5, 2) := by decide +kernel
theorem dX1_cellOfMeeting_17 : decode cX1_cellOfMeeting 17 = .ok (.iload 5, 2) := by decide +kernel
theorem dX1_cellOfMeeting_19 : decode cX1_cellOfMeeting 19 = .ok (.iconst 2, 1) := by decide +kernel
theorem dX1_cellOfMeeting_20 : decode cX1_cellOfMeeting 20 = .ok (.if_icmp .ge 68, 3) := by decide +kernel
theorem dX1_cellOfMeeting_23 : decode cX1_cellOfMeeting 23 = .ok (.aload_n 0, 1) := by decide +kernel
theorem dX1_cellOfMeeting_24 : decode cX1_cellOfMeeting 24 = .ok (.getfield 15, 3) := by decide +kernel
theorem dX1_cellOfMeeting_27 : decode cX1_cellOfMeeting 27 = .ok (.iconst 4, 1) := by decide +kernel
theorem dX1_cellOfMeeting_28 : decode cX1_cellOfMeeting 28 = .ok (.iload 4, 2) := by decide +kernel
theorem dX1_cellOfMeeting_30 : decode cX1_cellOfMeeting 30 = .ok (.imul, 1) := by decide +kernel
theorem dX1_cellOfMeeting_31 : decode cX1_cellOfMeeting 31 = .ok (.iload 5, 2) := by decide +kernel
theorem dX1_cellOfMeeting_33 : decode cX1_cellOfMeeting 33 = .ok (.iadd, 1) := by decide +kernel
theorem dX1_cellOfMeeting_34 : decode cX1_cellOfMeeting 34 = .ok (.iaload, 1) := by decide +kernel
theorem dX1_cellOfMeeting_35 : decode cX1_cellOfMeeting 35 = .ok (.istore 6, 2) := by decide +kernel
theorem dX1_cellOfMeeting_37 : decode cX1_cellOfMeeting 37 = .ok (.iload 6, 2) := by decide +kernel
theorem dX1_cellOfMeeting_39 : decode cX1_cellOfMeeting 39 = .ok (.ldc 77, 2) := by decide +kernel
theorem dX1_cellOfMeeting_41 : decode cX1_cellOfMeeting 41 = .ok (.if_icmp .eq 41, 3) := by decide +kernel
theorem dX1_cellOfMeeting_44 : decode cX1_cellOfMeeting 44 = .ok (.aload_n 0, 1) := by decide +kernel
theorem dX1_cellOfMeeting_45 : decode cX1_cellOfMeeting 45 = .ok (.iload 4, 2) := by decide +kernel
theorem dX1_cellOfMeeting_47 : decode cX1_cellOfMeeting 47 = .ok (.invokevirtual 81, 3) := by decide +kernel
theorem dX1_cellOfMeeting_50 : decode cX1_cellOfMeeting 50 = .ok (.aload_n 0, 1) := by decide +kernel
theorem dX1_cellOfMeeting_51 : decode cX1_cellOfMeeting 51 = .ok (.iload 6, 2) := by decide +kernel
theorem dX1_cellOfMeeting_53 : decode cX1_cellOfMeeting 53 = .ok (.invokevirtual 81, 3) := by decide +kernel
theorem dX1_cellOfMeeting_56 : decode cX1_cellOfMeeting 56 = .ok (.if_icmp .ne 6, 3) := by decide +kernel
theorem dX1_cellOfMeeting_59 : decode cX1_cellOfMeeting 59 = .ok (.goto 23, 3) := by decide +kernel
theorem dX1_cellOfMeeting_62 : decode cX1_cellOfMeeting 62 = .ok (.iload_n 3, 1) := by decide +kernel
theorem dX1_cellOfMeeting_63 : decode cX1_cellOfMeeting 63 = .ok (.iload_n 1, 1) := by decide +kernel
theorem dX1_cellOfMeeting_64 : decode cX1_cellOfMeeting 64 = .ok (.if_icmp .ne 15, 3) := by decide +kernel
theorem dX1_cellOfMeeting_67 : decode cX1_cellOfMeeting 67 = .ok (.iload_n 2, 1) := by decide +kernel
theorem dX1_cellOfMeeting_68 : decode cX1_cellOfMeeting 68 = .ok (.ifCond .ne 8, 3) := by decide +kernel
theorem dX1_cellOfMeeting_71 : decode cX1_cellOfMeeting 71 = .ok (.iload 4, 2) := by decide +kernel
theorem dX1_cellOfMeeting_73 : decode cX1_cellOfMeeting 73 = .ok (.goto 5, 3) := by decide +kernel
theorem dX1_cellOfMeeting_76 : decode cX1_cellOfMeeting 76 = .ok (.iload 6, 2) := by decide +kernel
theorem dX1_cellOfMeeting_78 : decode cX1_cellOfMeeting 78 = .ok (.ireturn, 1) := by decide +kernel
theorem dX1_cellOfMeeting_79 : decode cX1_cellOfMeeting 79 = .ok (.iinc 3 1, 3) := by decide +kernel
theorem dX1_cellOfMeeting_82 : decode cX1_cellOfMeeting 82 = .ok (.iinc 5 1, 3) := by decide +kernel
theorem dX1_cellOfMeeting_85 : decode cX1_cellOfMeeting 85 = .ok (.goto (-68), 3) := by decide +kernel
theorem dX1_cellOfMeeting_88 : decode cX1_cellOfMeeting 88 = .ok (.iinc 4 1, 3) := by decide +kernel
theorem dX1_cellOfMeeting_91 : decode cX1_cellOfMeeting 91 = .ok (.goto (-86), 3) := by decide +kernel
theorem dX1_cellOfMeeting_94 : decode cX1_cellOfMeeting 94 = .ok (.ldc 77, 2) := by decide +kernel
theorem dX1_cellOfMeeting_96 : decode cX1_cellOfMeeting 96 = .ok (.ireturn, 1) := by decide +kernel
theorem dX1_cellOfTrap_0 : decode cX1_cellOfTrap 0 = .ok (.iconst 0, 1) := by decide +kernel
theorem dX1_cellOfTrap_1 : decode cX1_cellOfTrap 1 = .ok (.istore_n 3, 1) := by decide +kernel
theorem dX1_cellOfTrap_2 : decode cX1_cellOfTrap 2 = .ok (.iconst 0, 1) := by decide +kernel
theorem dX1_cellOfTrap_3 : decode cX1_cellOfTrap 3 = .ok (.istore 4, 2) := by decide +kernel
theorem dX1_cellOfTrap_5 : decode cX1_cellOfTrap 5 = .ok (.iload 4, 2) := by decide +kernel
theorem dX1_cellOfTrap_7 : decode cX1_cellOfTrap 7 = .ok (.aload_n 0, 1) := by decide +kernel
theorem dX1_cellOfTrap_8 : decode cX1_cellOfTrap 8 = .ok (.getfield 30, 3) := by decide +kernel
theorem dX1_cellOfTrap_11 : decode cX1_cellOfTrap 11 = .ok (.if_icmp .ge 50, 3) := by decide +kernel
theorem dX1_cellOfTrap_14 : decode cX1_cellOfTrap 14 = .ok (.aload_n 0, 1) := by decide +kernel
theorem dX1_cellOfTrap_15 : decode cX1_cellOfTrap 15 = .ok (.iload 4, 2) := by decide +kernel
theorem dX1_cellOfTrap_17 : decode cX1_cellOfTrap 17 = .ok (.invokevirtual 73, 3) := by decide +kernel
theorem dX1_cellOfTrap_20 : decode cX1_cellOfTrap 20 = .ok (.ifCond .eq 35, 3) := by decide +kernel
theorem dX1_cellOfTrap_23 : decode cX1_cellOfTrap 23 = .ok (.aload_n 2, 1) := by decide +kernel
theorem dX1_cellOfTrap_24 : decode cX1_cellOfTrap 24 = .ok (.iload 4, 2) := by decide +kernel
theorem dX1_cellOfTrap_26 : decode cX1_cellOfTrap 26 = .ok (.invokevirtual 84, 3) := by decide +kernel
theorem dX1_cellOfTrap_29 : decode cX1_cellOfTrap 29 = .ok (.ifCond .ne 26, 3) := by decide +kernel
theorem dX1_cellOfTrap_32 : decode cX1_cellOfTrap 32 = .ok (.aload_n 0, 1) := by decide +kernel
theorem dX1_cellOfTrap_33 : decode cX1_cellOfTrap 33 = .ok (.iload 4, 2) := by decide +kernel
theorem dX1_cellOfTrap_35 : decode cX1_cellOfTrap 35 = .ok (.invokevirtual 87, 3) := by decide +kernel
theorem dX1_cellOfTrap_38 : decode cX1_cellOfTrap 38 = .ok (.ifCond .ne 6, 3) := by decide +kernel
theorem dX1_cellOfTrap_41 : decode cX1_cellOfTrap 41 = .ok (.goto 14, 3) := by decide +kernel
theorem dX1_cellOfTrap_44 : decode cX1_cellOfTrap 44 = .ok (.iload_n 3, 1) := by decide +kernel
theorem dX1_cellOfTrap_45 : decode cX1_cellOfTrap 45 = .ok (.iload_n 1, 1) := by decide +kernel
theorem dX1_cellOfTrap_46 : decode cX1_cellOfTrap 46 = .ok (.if_icmp .ne 6, 3) := by decide +kernel
theorem dX1_cellOfTrap_49 : decode cX1_cellOfTrap 49 = .ok (.iload 4, 2) := by decide +kernel
theorem dX1_cellOfTrap_51 : decode cX1_cellOfTrap 51 = .ok (.ireturn, 1) := by decide +kernel
theorem dX1_cellOfTrap_52 : decode cX1_cellOfTrap 52 = .ok (.iinc 3 1, 3) := by decide +kernel
theorem dX1_cellOfTrap_55 : decode cX1_cellOfTrap 55 = .ok (.iinc 4 1, 3) := by decide +kernel
theorem dX1_cellOfTrap_58 : decode cX1_cellOfTrap 58 = .ok (.goto (-53), 3) := by decide +kernel
theorem dX1_cellOfTrap_61 : decode cX1_cellOfTrap 61 = .ok (.ldc 77, 2) := by decide +kernel
theorem dX1_cellOfTrap_63 : decode cX1_cellOfTrap 63 = .ok (.ireturn, 1) := by decide +kernel
theorem dX1_forceAt_0 : decode cX1_forceAt 0 = .ok (.iload_n 1, 1) := by decide +kernel
theorem dX1_forceAt_1 : decode cX1_forceAt 1 = .ok (.aload_n 0, 1) := by decide +kernel
theorem dX1_forceAt_2 : decode cX1_forceAt 2 = .ok (.getfield 34, 3) := by decide +kernel
theorem dX1_forceAt_5 : decode cX1_forceAt 5 = .ok (.invokestatic 90, 3) := by decide +kernel
theorem dX1_forceAt_8 : decode cX1_forceAt 8 = .ok (.ifCond .ne 7, 3) := by decide +kernel
theorem dX1_forceAt_11 : decode cX1_forceAt 11 = .ok (.ldc2_w 94, 3) := by decide +kernel
theorem dX1_forceAt_14 : decode cX1_forceAt 14 = .ok (.lreturn, 1) := by decide +kernel
theorem dX1_forceAt_15 : decode cX1_forceAt 15 = .ok (.aload_n 0, 1) := by decide +kernel
theorem dX1_forceAt_16 : decode cX1_forceAt 16 = .ok (.aload_n 0, 1) := by decide +kernel
theorem dX1_forceAt_17 : decode cX1_forceAt 17 = .ok (.getfield 21, 3) := by decide +kernel
theorem dX1_forceAt_20 : decode cX1_forceAt 20 = .ok (.iload_n 1, 1) := by decide +kernel
theorem dX1_forceAt_21 : decode cX1_forceAt 21 = .ok (.iaload, 1) := by decide +kernel
theorem dX1_forceAt_22 : decode cX1_forceAt 22 = .ok (.invokevirtual 69, 3) := by decide +kernel
theorem dX1_forceAt_25 : decode cX1_forceAt 25 = .ok (.i2l, 1) := by decide +kernel
theorem dX1_forceAt_26 : decode cX1_forceAt 26 = .ok (.lstore_n 2, 1) := by decide +kernel
theorem dX1_forceAt_27 : decode cX1_forceAt 27 = .ok (.lconst 0, 1) := by decide +kernel
theorem dX1_forceAt_28 : decode cX1_forceAt 28 = .ok (.lstore 4, 2) := by decide +kernel
theorem dX1_forceAt_30 : decode cX1_forceAt 30 = .ok (.iconst 0, 1) := by decide +kernel
theorem dX1_forceAt_31 : decode cX1_forceAt 31 = .ok (.istore 6, 2) := by decide +kernel
theorem dX1_forceAt_33 : decode cX1_forceAt 33 = .ok (.iload 6, 2) := by decide +kernel
theorem dX1_forceAt_35 : decode cX1_forceAt 35 = .ok (.iload_n 1, 1) := by decide +kernel
theorem dX1_forceAt_36 : decode cX1_forceAt 36 = .ok (.if_icmp .gt 28, 3) := by decide +kernel
theorem dX1_forceAt_39 : decode cX1_forceAt 39 = .ok (.lload 4, 2) := by decide +kernel
theorem dX1_forceAt_41 : decode cX1_forceAt 41 = .ok (.lload_n 2, 1) := by decide +kernel
theorem dX1_forceAt_42 : decode cX1_forceAt 42 = .ok (.aload_n 0, 1) := by decide +kernel
theorem dX1_forceAt_43 : decode cX1_forceAt 43 = .ok (.aload_n 0, 1) := by decide +kernel
theorem dX1_forceAt_44 : decode cX1_forceAt 44 = .ok (.getfield 21, 3) := by decide +kernel
theorem dX1_forceAt_47 : decode cX1_forceAt 47 = .ok (.iload 6, 2) := by decide +kernel
theorem dX1_forceAt_49 : decode cX1_forceAt 49 = .ok (.iaload, 1) := by decide +kernel
theorem dX1_forceAt_50 : decode cX1_forceAt 50 = .ok (.invokevirtual 69, 3) := by decide +kernel
theorem dX1_forceAt_53 : decode cX1_forceAt 53 = .ok (.i2l, 1) := by decide +kernel
theorem dX1_forceAt_54 : decode cX1_forceAt 54 = .ok (.lsub, 1) := by decide +kernel
theorem dX1_forceAt_55 : decode cX1_forceAt 55 = .ok (.ladd, 1) := by decide +kernel
theorem dX1_forceAt_56 : decode cX1_forceAt 56 = .ok (.lstore 4, 2) := by decide +kernel
theorem dX1_forceAt_58 : decode cX1_forceAt 58 = .ok (.iinc 6 1, 3) := by decide +kernel
theorem dX1_forceAt_61 : decode cX1_forceAt 61 = .ok (.goto (-28), 3) := by decide +kernel
theorem dX1_forceAt_64 : decode cX1_forceAt 64 = .ok (.lload 4, 2) := by decide +kernel
theorem dX1_forceAt_66 : decode cX1_forceAt 66 = .ok (.lreturn, 1) := by decide +kernel
theorem dX1_bestGate_0 : decode cX1_bestGate 0 = .ok (.aload_n 0, 1) := by decide +kernel
theorem dX1_bestGate_1 : decode cX1_bestGate 1 = .ok (.aconst_null, 1) := by decide +kernel
theorem dX1_bestGate_2 : decode cX1_bestGate 2 = .ok (.putfield 37, 3) := by decide +kernel
theorem dX1_bestGate_5 : decode cX1_bestGate 5 = .ok (.ldc 77, 2) := by decide +kernel
theorem dX1_bestGate_7 : decode cX1_bestGate 7 = .ok (.istore_n 2, 1) := by decide +kernel
theorem dX1_bestGate_8 : decode cX1_bestGate 8 = .ok (.ldc 96, 2) := by decide +kernel
theorem dX1_bestGate_10 : decode cX1_bestGate 10 = .ok (.istore_n 3, 1) := by decide +kernel
theorem dX1_bestGate_11 : decode cX1_bestGate 11 = .ok (.aload_n 0, 1) := by decide +kernel
theorem dX1_bestGate_12 : decode cX1_bestGate 12 = .ok (.aload_n 1, 1) := by decide +kernel
theorem dX1_bestGate_13 : decode cX1_bestGate 13 = .ok (.invokevirtual 49, 3) := by decide +kernel
theorem dX1_bestGate_16 : decode cX1_bestGate 16 = .ok (.iconst 0, 1) := by decide +kernel
theorem dX1_bestGate_17 : decode cX1_bestGate 17 = .ok (.istore 4, 2) := by decide +kernel
theorem dX1_bestGate_19 : decode cX1_bestGate 19 = .ok (.iload 4, 2) := by decide +kernel
theorem dX1_bestGate_21 : decode cX1_bestGate 21 = .ok (.aload_n 0, 1) := by decide +kernel
theorem dX1_bestGate_22 : decode cX1_bestGate 22 = .ok (.getfield 30, 3) := by decide +kernel
theorem dX1_bestGate_25 : decode cX1_bestGate 25 = .ok (.if_icmp .ge 17, 3) := by decide +kernel
theorem dX1_bestGate_28 : decode cX1_bestGate 28 = .ok (.aload_n 0, 1) := by decide +kernel
theorem dX1_bestGate_29 : decode cX1_bestGate 29 = .ok (.getfield 27, 3) := by decide +kernel
theorem dX1_bestGate_32 : decode cX1_bestGate 32 = .ok (.iload 4, 2) := by decide +kernel
theorem dX1_bestGate_34 : decode cX1_bestGate 34 = .ok (.iconst 0, 1) := by decide +kernel
theorem dX1_bestGate_35 : decode cX1_bestGate 35 = .ok (.iastore, 1) := by decide +kernel
theorem dX1_bestGate_36 : decode cX1_bestGate 36 = .ok (.iinc 4 1, 3) := by decide +kernel
theorem dX1_bestGate_39 : decode cX1_bestGate 39 = .ok (.goto (-20), 3) := by decide +kernel
theorem dX1_bestGate_42 : decode cX1_bestGate 42 = .ok (.iconst 0, 1) := by decide +kernel
theorem dX1_bestGate_43 : decode cX1_bestGate 43 = .ok (.istore 4, 2) := by decide +kernel
theorem dX1_bestGate_45 : decode cX1_bestGate 45 = .ok (.iload 4, 2) := by decide +kernel
theorem dX1_bestGate_47 : decode cX1_bestGate 47 = .ok (.aload_n 0, 1) := by decide +kernel
theorem dX1_bestGate_48 : decode cX1_bestGate 48 = .ok (.getfield 30, 3) := by decide +kernel
theorem dX1_bestGate_51 : decode cX1_bestGate 51 = .ok (.if_icmp .ge 76, 3) := by decide +kernel
theorem dX1_bestGate_54 : decode cX1_bestGate 54 = .ok (.aload_n 0, 1) := by decide +kernel
theorem dX1_bestGate_55 : decode cX1_bestGate 55 = .ok (.getfield 9, 3) := by decide +kernel
theorem dX1_bestGate_58 : decode cX1_bestGate 58 = .ok (.iload 4, 2) := by decide +kernel
theorem dX1_bestGate_60 : decode cX1_bestGate 60 = .ok (.iaload, 1) := by decide +kernel
theorem dX1_bestGate_61 : decode cX1_bestGate 61 = .ok (.ifCond .eq 60, 3) := by decide +kernel
theorem dX1_bestGate_64 : decode cX1_bestGate 64 = .ok (.aload_n 0, 1) := by decide +kernel
theorem dX1_bestGate_65 : decode cX1_bestGate 65 = .ok (.getfield 27, 3) := by decide +kernel
theorem dX1_bestGate_68 : decode cX1_bestGate 68 = .ok (.iload 4, 2) := by decide +kernel
theorem dX1_bestGate_70 : decode cX1_bestGate 70 = .ok (.iaload, 1) := by decide +kernel
theorem dX1_bestGate_71 : decode cX1_bestGate 71 = .ok (.iload_n 3, 1) := by decide +kernel
theorem dX1_bestGate_72 : decode cX1_bestGate 72 = .ok (.if_icmp .lt 6, 3) := by decide +kernel
theorem dX1_bestGate_75 : decode cX1_bestGate 75 = .ok (.goto 46, 3) := by decide +kernel
theorem dX1_bestGate_78 : decode cX1_bestGate 78 = .ok (.aload_n 0, 1) := by decide +kernel
theorem dX1_bestGate_79 : decode cX1_bestGate 79 = .ok (.invokevirtual 97, 3) := by decide +kernel
theorem dX1_bestGate_82 : decode cX1_bestGate 82 = .ok (.aload_n 0, 1) := by decide +kernel
theorem dX1_bestGate_83 : decode cX1_bestGate 83 = .ok (.iload 4, 2) := by decide +kernel
theorem dX1_bestGate_85 : decode cX1_bestGate 85 = .ok (.iconst 0, 1) := by decide +kernel
theorem dX1_bestGate_86 : decode cX1_bestGate 86 = .ok (.invokevirtual 56, 3) := by decide +kernel
theorem dX1_bestGate_89 : decode cX1_bestGate 89 = .ok (.aload_n 0, 1) := by decide +kernel
theorem dX1_bestGate_90 : decode cX1_bestGate 90 = .ok (.invokevirtual 60, 3) := by decide +kernel
theorem dX1_bestGate_93 : decode cX1_bestGate 93 = .ok (.aload_n 0, 1) := by decide +kernel
theorem dX1_bestGate_94 : decode cX1_bestGate 94 = .ok (.invokevirtual 100, 3) := by decide +kernel
theorem dX1_bestGate_97 : decode cX1_bestGate 97 = .ok (.istore 5, 2) := by decide +kernel
theorem dX1_bestGate_99 : decode cX1_bestGate 99 = .ok (.iload 5, 2) := by decide +kernel
theorem dX1_bestGate_101 : decode cX1_bestGate 101 = .ok (.ldc 96, 2) := by decide +kernel
theorem dX1_bestGate_103 : decode cX1_bestGate 103 = .ok (.if_icmp .ne 6, 3) := by decide +kernel
theorem dX1_bestGate_106 : decode cX1_bestGate 106 = .ok (.ldc 77, 2) := by decide +kernel
theorem dX1_bestGate_108 : decode cX1_bestGate 108 = .ok (.ireturn, 1) := by decide +kernel
theorem dX1_bestGate_109 : decode cX1_bestGate 109 = .ok (.iload 5, 2) := by decide +kernel
theorem dX1_bestGate_111 : decode cX1_bestGate 111 = .ok (.iload_n 3, 1) := by decide +kernel
theorem dX1_bestGate_112 : decode cX1_bestGate 112 = .ok (.if_icmp .ge 9, 3) := by decide +kernel
theorem dX1_bestGate_115 : decode cX1_bestGate 115 = .ok (.iload 5, 2) := by decide +kernel
theorem dX1_bestGate_117 : decode cX1_bestGate 117 = .ok (.istore_n 3, 1) := by decide +kernel
theorem dX1_bestGate_118 : decode cX1_bestGate 118 = .ok (.iload 4, 2) := by decide +kernel
theorem dX1_bestGate_120 : decode cX1_bestGate 120 = .ok (.istore_n 2, 1) := by decide +kernel
theorem dX1_bestGate_121 : decode cX1_bestGate 121 = .ok (.iinc 4 1, 3) := by decide +kernel
theorem dX1_bestGate_124 : decode cX1_bestGate 124 = .ok (.goto (-79), 3) := by decide +kernel
theorem dX1_bestGate_127 : decode cX1_bestGate 127 = .ok (.iload_n 2, 1) := by decide +kernel
theorem dX1_bestGate_128 : decode cX1_bestGate 128 = .ok (.ireturn, 1) := by decide +kernel
theorem dX1_endsOfTrial_0 : decode cX1_endsOfTrial 0 = .ok (.iconst 0, 1) := by decide +kernel
theorem dX1_endsOfTrial_1 : decode cX1_endsOfTrial 1 = .ok (.istore_n 1, 1) := by decide +kernel
theorem dX1_endsOfTrial_2 : decode cX1_endsOfTrial 2 = .ok (.iconst 0, 1) := by decide +kernel
theorem dX1_endsOfTrial_3 : decode cX1_endsOfTrial 3 = .ok (.istore_n 2, 1) := by decide +kernel
theorem dX1_endsOfTrial_4 : decode cX1_endsOfTrial 4 = .ok (.iload_n 2, 1) := by decide +kernel
theorem dX1_endsOfTrial_5 : decode cX1_endsOfTrial 5 = .ok (.aload_n 0, 1) := by decide +kernel
theorem dX1_endsOfTrial_6 : decode cX1_endsOfTrial 6 = .ok (.getfield 30, 3) := by decide +kernel
theorem dX1_endsOfTrial_9 : decode cX1_endsOfTrial 9 = .ok (.if_icmp .ge 60, 3) := by decide +kernel
theorem dX1_endsOfTrial_12 : decode cX1_endsOfTrial 12 = .ok (.aload_n 0, 1) := by decide +kernel
theorem dX1_endsOfTrial_13 : decode cX1_endsOfTrial 13 = .ok (.getfield 9, 3) := by decide +kernel
theorem dX1_endsOfTrial_16 : decode cX1_endsOfTrial 16 = .ok (.iload_n 2, 1) := by decide +kernel
theorem dX1_endsOfTrial_17 : decode cX1_endsOfTrial 17 = .ok (.iaload, 1) := by decide +kernel
theorem dX1_endsOfTrial_18 : decode cX1_endsOfTrial 18 = .ok (.ifCond .ne 6, 3) := by decide +kernel
theorem dX1_endsOfTrial_21 : decode cX1_endsOfTrial 21 = .ok (.goto 42, 3) := by decide +kernel
theorem dX1_endsOfTrial_24 : decode cX1_endsOfTrial 24 = .ok (.aload_n 0, 1) := by decide +kernel
theorem dX1_endsOfTrial_25 : decode cX1_endsOfTrial 25 = .ok (.iload_n 2, 1) := by decide +kernel
theorem dX1_endsOfTrial_26 : decode cX1_endsOfTrial 26 = .ok (.invokevirtual 73, 3) := by decide +kernel
theorem dX1_endsOfTrial_29 : decode cX1_endsOfTrial 29 = .ok (.ifCond .ne 6, 3) := by decide +kernel
theorem dX1_endsOfTrial_32 : decode cX1_endsOfTrial 32 = .ok (.ldc 96, 2) := by decide +kernel
theorem dX1_endsOfTrial_34 : decode cX1_endsOfTrial 34 = .ok (.ireturn, 1) := by decide +kernel
theorem dX1_endsOfTrial_35 : decode cX1_endsOfTrial 35 = .ok (.aload_n 0, 1) := by decide +kernel
theorem dX1_endsOfTrial_36 : decode cX1_endsOfTrial 36 = .ok (.iload_n 2, 1) := by decide +kernel
theorem dX1_endsOfTrial_37 : decode cX1_endsOfTrial 37 = .ok (.invokevirtual 69, 3) := by decide +kernel
theorem dX1_endsOfTrial_40 : decode cX1_endsOfTrial 40 = .ok (.istore_n 3, 1) := by decide +kernel
theorem dX1_endsOfTrial_41 : decode cX1_endsOfTrial 41 = .ok (.iload_n 1, 1) := by decide +kernel
theorem dX1_endsOfTrial_42 : decode cX1_endsOfTrial 42 = .ok (.iload_n 3, 1) := by decide +kernel
theorem dX1_endsOfTrial_43 : decode cX1_endsOfTrial 43 = .ok (.invokestatic 104, 3) := by decide +kernel
theorem dX1_endsOfTrial_46 : decode cX1_endsOfTrial 46 = .ok (.istore_n 1, 1) := by decide +kernel
theorem dX1_endsOfTrial_47 : decode cX1_endsOfTrial 47 = .ok (.aload_n 0, 1) := by decide +kernel
theorem dX1_endsOfTrial_48 : decode cX1_endsOfTrial 48 = .ok (.getfield 27, 3) := by decide +kernel
theorem dX1_endsOfTrial_51 : decode cX1_endsOfTrial 51 = .ok (.iload_n 2, 1) := by decide +kernel
theorem dX1_endsOfTrial_52 : decode cX1_endsOfTrial 52 = .ok (.aload_n 0, 1) := by decide +kernel
theorem dX1_endsOfTrial_53 : decode cX1_endsOfTrial 53 = .ok (.getfield 27, 3) := by decide +kernel
theorem dX1_endsOfTrial_56 : decode cX1_endsOfTrial 56 = .ok (.iload_n 2, 1) := by decide +kernel
theorem dX1_endsOfTrial_57 : decode cX1_endsOfTrial 57 = .ok (.iaload, 1) := by decide +kernel
theorem dX1_endsOfTrial_58 : decode cX1_endsOfTrial 58 = .ok (.iload_n 3, 1) := by decide +kernel
theorem dX1_endsOfTrial_59 : decode cX1_endsOfTrial 59 = .ok (.invokestatic 104, 3) := by decide +kernel
theorem dX1_endsOfTrial_62 : decode cX1_endsOfTrial 62 = .ok (.iastore, 1) := by decide +kernel
theorem dX1_endsOfTrial_63 : decode cX1_endsOfTrial 63 = .ok (.iinc 2 1, 3) := by decide +kernel
theorem dX1_endsOfTrial_66 : decode cX1_endsOfTrial 66 = .ok (.goto (-62), 3) := by decide +kernel
theorem dX1_endsOfTrial_69 : decode cX1_endsOfTrial 69 = .ok (.iload_n 1, 1) := by decide +kernel
theorem dX1_endsOfTrial_70 : decode cX1_endsOfTrial 70 = .ok (.ireturn, 1) := by decide +kernel
theorem dX1_reached_0 : decode cX1_reached 0 = .ok (.iload_n 1, 1) := by decide +kernel
theorem dX1_reached_1 : decode cX1_reached 1 = .ok (.aload_n 0, 1) := by decide +kernel
theorem dX1_reached_2 : decode cX1_reached 2 = .ok (.getfield 30, 3) := by decide +kernel
theorem dX1_reached_5 : decode cX1_reached 5 = .ok (.invokestatic 90, 3) := by decide +kernel
theorem dX1_reached_8 : decode cX1_reached 8 = .ok (.ifCond .eq 18, 3) := by decide +kernel
theorem dX1_reached_11 : decode cX1_reached 11 = .ok (.aload_n 0, 1) := by decide +kernel
theorem dX1_reached_12 : decode cX1_reached 12 = .ok (.getfield 18, 3) := by decide +kernel
theorem dX1_reached_15 : decode cX1_reached 15 = .ok (.iload_n 1, 1) := by decide +kernel
theorem dX1_reached_16 : decode cX1_reached 16 = .ok (.iaload, 1) := by decide +kernel
theorem dX1_reached_17 : decode cX1_reached 17 = .ok (.ldc 96, 2) := by decide +kernel
theorem dX1_reached_19 : decode cX1_reached 19 = .ok (.if_icmp .eq 7, 3) := by decide +kernel
theorem dX1_reached_22 : decode cX1_reached 22 = .ok (.iconst 1, 1) := by decide +kernel
theorem dX1_reached_23 : decode cX1_reached 23 = .ok (.goto 4, 3) := by decide +kernel
theorem dX1_reached_26 : decode cX1_reached 26 = .ok (.iconst 0, 1) := by decide +kernel
theorem dX1_reached_27 : decode cX1_reached 27 = .ok (.ireturn, 1) := by decide +kernel
theorem dX1_isLastAround_0 : decode cX1_isLastAround 0 = .ok (.iconst 0, 1) := by decide +kernel
theorem dX1_isLastAround_1 : decode cX1_isLastAround 1 = .ok (.istore_n 2, 1) := by decide +kernel
theorem dX1_isLastAround_2 : decode cX1_isLastAround 2 = .ok (.iload_n 2, 1) := by decide +kernel
theorem dX1_isLastAround_3 : decode cX1_isLastAround 3 = .ok (.iconst 4, 1) := by decide +kernel
theorem dX1_isLastAround_4 : decode cX1_isLastAround 4 = .ok (.if_icmp .ge 51, 3) := by decide +kernel
theorem dX1_isLastAround_7 : decode cX1_isLastAround 7 = .ok (.aload_n 0, 1) := by decide +kernel
theorem dX1_isLastAround_8 : decode cX1_isLastAround 8 = .ok (.getfield 15, 3) := by decide +kernel
theorem dX1_isLastAround_11 : decode cX1_isLastAround 11 = .ok (.iconst 4, 1) := by decide +kernel
theorem dX1_isLastAround_12 : decode cX1_isLastAround 12 = .ok (.iload_n 1, 1) := by decide +kernel
theorem dX1_isLastAround_13 : decode cX1_isLastAround 13 = .ok (.imul, 1) := by decide +kernel
theorem dX1_isLastAround_14 : decode cX1_isLastAround 14 = .ok (.iload_n 2, 1) := by decide +kernel
theorem dX1_isLastAround_15 : decode cX1_isLastAround 15 = .ok (.iadd, 1) := by decide +kernel
theorem dX1_isLastAround_16 : decode cX1_isLastAround 16 = .ok (.iaload, 1) := by decide +kernel
theorem dX1_isLastAround_17 : decode cX1_isLastAround 17 = .ok (.istore_n 3, 1) := by decide +kernel
theorem dX1_isLastAround_18 : decode cX1_isLastAround 18 = .ok (.iload_n 3, 1) := by decide +kernel
theorem dX1_isLastAround_19 : decode cX1_isLastAround 19 = .ok (.ldc 77, 2) := by decide +kernel
theorem dX1_isLastAround_21 : decode cX1_isLastAround 21 = .ok (.if_icmp .eq 28, 3) := by decide +kernel
theorem dX1_isLastAround_24 : decode cX1_isLastAround 24 = .ok (.aload_n 0, 1) := by decide +kernel
theorem dX1_isLastAround_25 : decode cX1_isLastAround 25 = .ok (.iload_n 3, 1) := by decide +kernel
theorem dX1_isLastAround_26 : decode cX1_isLastAround 26 = .ok (.invokevirtual 73, 3) := by decide +kernel
theorem dX1_isLastAround_29 : decode cX1_isLastAround 29 = .ok (.ifCond .eq 20, 3) := by decide +kernel
theorem dX1_isLastAround_32 : decode cX1_isLastAround 32 = .ok (.aload_n 0, 1) := by decide +kernel
theorem dX1_isLastAround_33 : decode cX1_isLastAround 33 = .ok (.getfield 24, 3) := by decide +kernel
theorem dX1_isLastAround_36 : decode cX1_isLastAround 36 = .ok (.iload_n 3, 1) := by decide +kernel
theorem dX1_isLastAround_37 : decode cX1_isLastAround 37 = .ok (.iaload, 1) := by decide +kernel
theorem dX1_isLastAround_38 : decode cX1_isLastAround 38 = .ok (.aload_n 0, 1) := by decide +kernel
theorem dX1_isLastAround_39 : decode cX1_isLastAround 39 = .ok (.getfield 24, 3) := by decide +kernel
theorem dX1_isLastAround_42 : decode cX1_isLastAround 42 = .ok (.iload_n 1, 1) := by decide +kernel
theorem dX1_isLastAround_43 : decode cX1_isLastAround 43 = .ok (.iaload, 1) := by decide +kernel
theorem dX1_isLastAround_44 : decode cX1_isLastAround 44 = .ok (.if_icmp .le 5, 3) := by decide +kernel
theorem dX1_isLastAround_47 : decode cX1_isLastAround 47 = .ok (.iconst 0, 1) := by decide +kernel
theorem dX1_isLastAround_48 : decode cX1_isLastAround 48 = .ok (.ireturn, 1) := by decide +kernel
theorem dX1_isLastAround_49 : decode cX1_isLastAround 49 = .ok (.iinc 2 1, 3) := by decide +kernel
theorem dX1_isLastAround_52 : decode cX1_isLastAround 52 = .ok (.goto (-50), 3) := by decide +kernel
theorem dX1_isLastAround_55 : decode cX1_isLastAround 55 = .ok (.iconst 1, 1) := by decide +kernel
theorem dX1_isLastAround_56 : decode cX1_isLastAround 56 = .ok (.ireturn, 1) := by decide +kernel
theorem dX1_layOut_0 : decode cX1_layOut 0 = .ok (.aload_n 0, 1) := by decide +kernel
theorem dX1_layOut_1 : decode cX1_layOut 1 = .ok (.aload_n 1, 1) := by decide +kernel
theorem dX1_layOut_2 : decode cX1_layOut 2 = .ok (.getfield 110, 3) := by decide +kernel
theorem dX1_layOut_5 : decode cX1_layOut 5 = .ok (.arraylength, 1) := by decide +kernel
theorem dX1_layOut_6 : decode cX1_layOut 6 = .ok (.sipush 144, 3) := by decide +kernel
theorem dX1_layOut_9 : decode cX1_layOut 9 = .ok (.invokestatic 113, 3) := by decide +kernel
theorem dX1_layOut_12 : decode cX1_layOut 12 = .ok (.putfield 30, 3) := by decide +kernel
theorem dX1_layOut_15 : decode cX1_layOut 15 = .ok (.iconst 0, 1) := by decide +kernel
theorem dX1_layOut_16 : decode cX1_layOut 16 = .ok (.istore_n 2, 1) := by decide +kernel
theorem dX1_layOut_17 : decode cX1_layOut 17 = .ok (.iload_n 2, 1) := by decide +kernel
theorem dX1_layOut_18 : decode cX1_layOut 18 = .ok (.aload_n 0, 1) := by decide +kernel
theorem dX1_layOut_19 : decode cX1_layOut 19 = .ok (.getfield 30, 3) := by decide +kernel
theorem dX1_layOut_22 : decode cX1_layOut 22 = .ok (.if_icmp .ge 20, 3) := by decide +kernel
theorem dX1_layOut_25 : decode cX1_layOut 25 = .ok (.aload_n 0, 1) := by decide +kernel
theorem dX1_layOut_26 : decode cX1_layOut 26 = .ok (.getfield 9, 3) := by decide +kernel
theorem dX1_layOut_29 : decode cX1_layOut 29 = .ok (.iload_n 2, 1) := by decide +kernel
theorem dX1_layOut_30 : decode cX1_layOut 30 = .ok (.aload_n 1, 1) := by decide +kernel
theorem dX1_layOut_31 : decode cX1_layOut 31 = .ok (.iload_n 2, 1) := by decide +kernel
theorem dX1_layOut_32 : decode cX1_layOut 32 = .ok (.invokevirtual 116, 3) := by decide +kernel
theorem dX1_layOut_35 : decode cX1_layOut 35 = .ok (.iastore, 1) := by decide +kernel
theorem dX1_layOut_36 : decode cX1_layOut 36 = .ok (.iinc 2 1, 3) := by decide +kernel
theorem dX1_layOut_39 : decode cX1_layOut 39 = .ok (.goto (-22), 3) := by decide +kernel
theorem dX1_layOut_42 : decode cX1_layOut 42 = .ok (.iconst 0, 1) := by decide +kernel
theorem dX1_layOut_43 : decode cX1_layOut 43 = .ok (.istore_n 2, 1) := by decide +kernel
theorem dX1_layOut_44 : decode cX1_layOut 44 = .ok (.iload_n 2, 1) := by decide +kernel
theorem dX1_layOut_45 : decode cX1_layOut 45 = .ok (.aload_n 1, 1) := by decide +kernel
theorem dX1_layOut_46 : decode cX1_layOut 46 = .ok (.getfield 119, 3) := by decide +kernel
theorem dX1_layOut_49 : decode cX1_layOut 49 = .ok (.if_icmp .ge 133, 3) := by decide +kernel
theorem dX1_layOut_52 : decode cX1_layOut 52 = .ok (.iconst 0, 1) := by decide +kernel
theorem dX1_layOut_53 : decode cX1_layOut 53 = .ok (.istore_n 3, 1) := by decide +kernel
theorem dX1_layOut_54 : decode cX1_layOut 54 = .ok (.iload_n 3, 1) := by decide +kernel
theorem dX1_layOut_55 : decode cX1_layOut 55 = .ok (.aload_n 1, 1) := by decide +kernel
theorem dX1_layOut_56 : decode cX1_layOut 56 = .ok (.getfield 122, 3) := by decide +kernel
theorem dX1_layOut_59 : decode cX1_layOut 59 = .ok (.if_icmp .ge 117, 3) := by decide +kernel
theorem dX1_layOut_62 : decode cX1_layOut 62 = .ok (.iload_n 2, 1) := by decide +kernel
theorem dX1_layOut_63 : decode cX1_layOut 63 = .ok (.aload_n 1, 1) := by decide +kernel
theorem dX1_layOut_64 : decode cX1_layOut 64 = .ok (.getfield 122, 3) := by decide +kernel
theorem dX1_layOut_67 : decode cX1_layOut 67 = .ok (.imul, 1) := by decide +kernel
theorem dX1_layOut_68 : decode cX1_layOut 68 = .ok (.iload_n 3, 1) := by decide +kernel
theorem dX1_layOut_69 : decode cX1_layOut 69 = .ok (.iadd, 1) := by decide +kernel
theorem dX1_layOut_70 : decode cX1_layOut 70 = .ok (.istore 4, 2) := by decide +kernel
theorem dX1_layOut_72 : decode cX1_layOut 72 = .ok (.aload_n 0, 1) := by decide +kernel
theorem dX1_layOut_73 : decode cX1_layOut 73 = .ok (.iload 4, 2) := by decide +kernel
theorem dX1_layOut_75 : decode cX1_layOut 75 = .ok (.iconst 0, 1) := by decide +kernel
theorem dX1_layOut_76 : decode cX1_layOut 76 = .ok (.iload 4, 2) := by decide +kernel
theorem dX1_layOut_78 : decode cX1_layOut 78 = .ok (.iconst 1, 1) := by decide +kernel
theorem dX1_layOut_79 : decode cX1_layOut 79 = .ok (.iadd, 1) := by decide +kernel
theorem dX1_layOut_80 : decode cX1_layOut 80 = .ok (.iload_n 3, 1) := by decide +kernel
theorem dX1_layOut_81 : decode cX1_layOut 81 = .ok (.iconst 1, 1) := by decide +kernel
theorem dX1_layOut_82 : decode cX1_layOut 82 = .ok (.iadd, 1) := by decide +kernel
theorem dX1_layOut_83 : decode cX1_layOut 83 = .ok (.aload_n 1, 1) := by decide +kernel
theorem dX1_layOut_84 : decode cX1_layOut 84 = .ok (.getfield 122, 3) := by decide +kernel
theorem dX1_layOut_87 : decode cX1_layOut 87 = .ok (.if_icmp .ge 7, 3) := by decide +kernel
theorem dX1_layOut_90 : decode cX1_layOut 90 = .ok (.iconst 1, 1) := by decide +kernel
theorem dX1_layOut_91 : decode cX1_layOut 91 = .ok (.goto 4, 3) := by decide +kernel
theorem dX1_layOut_94 : decode cX1_layOut 94 = .ok (.iconst 0, 1) := by decide +kernel
theorem dX1_layOut_95 : decode cX1_layOut 95 = .ok (.invokevirtual 125, 3) := by decide +kernel
theorem dX1_layOut_98 : decode cX1_layOut 98 = .ok (.aload_n 0, 1) := by decide +kernel
theorem dX1_layOut_99 : decode cX1_layOut 99 = .ok (.iload 4, 2) := by decide +kernel
theorem dX1_layOut_101 : decode cX1_layOut 101 = .ok (.iconst 1, 1) := by decide +kernel
theorem dX1_layOut_102 : decode cX1_layOut 102 = .ok (.iload 4, 2) := by decide +kernel
theorem dX1_layOut_104 : decode cX1_layOut 104 = .ok (.aload_n 1, 1) := by decide +kernel
theorem dX1_layOut_105 : decode cX1_layOut 105 = .ok (.getfield 122, 3) := by decide +kernel
theorem dX1_layOut_108 : decode cX1_layOut 108 = .ok (.iadd, 1) := by decide +kernel
theorem dX1_layOut_109 : decode cX1_layOut 109 = .ok (.iload_n 2, 1) := by decide +kernel
theorem dX1_layOut_110 : decode cX1_layOut 110 = .ok (.iconst 1, 1) := by decide +kernel
theorem dX1_layOut_111 : decode cX1_layOut 111 = .ok (.iadd, 1) := by decide +kernel
theorem dX1_layOut_112 : decode cX1_layOut 112 = .ok (.aload_n 1, 1) := by decide +kernel
theorem dX1_layOut_113 : decode cX1_layOut 113 = .ok (.getfield 119, 3) := by decide +kernel
theorem dX1_layOut_116 : decode cX1_layOut 116 = .ok (.if_icmp .ge 7, 3) := by decide +kernel
theorem dX1_layOut_119 : decode cX1_layOut 119 = .ok (.iconst 1, 1) := by decide +kernel
theorem dX1_layOut_120 : decode cX1_layOut 120 = .ok (.goto 4, 3) := by decide +kernel
theorem dX1_layOut_123 : decode cX1_layOut 123 = .ok (.iconst 0, 1) := by decide +kernel
theorem dX1_layOut_124 : decode cX1_layOut 124 = .ok (.invokevirtual 125, 3) := by decide +kernel
theorem dX1_layOut_127 : decode cX1_layOut 127 = .ok (.aload_n 0, 1) := by decide +kernel
theorem dX1_layOut_128 : decode cX1_layOut 128 = .ok (.iload 4, 2) := by decide +kernel
theorem dX1_layOut_130 : decode cX1_layOut 130 = .ok (.iconst 2, 1) := by decide +kernel
theorem dX1_layOut_131 : decode cX1_layOut 131 = .ok (.iload 4, 2) := by decide +kernel
theorem dX1_layOut_133 : decode cX1_layOut 133 = .ok (.iconst 1, 1) := by decide +kernel
theorem dX1_layOut_134 : decode cX1_layOut 134 = .ok (.isub, 1) := by decide +kernel
theorem dX1_layOut_135 : decode cX1_layOut 135 = .ok (.iload_n 3, 1) := by decide +kernel
theorem dX1_layOut_136 : decode cX1_layOut 136 = .ok (.ifCond .le 7, 3) := by decide +kernel
theorem dX1_layOut_139 : decode cX1_layOut 139 = .ok (.iconst 1, 1) := by decide +kernel
theorem dX1_layOut_140 : decode cX1_layOut 140 = .ok (.goto 4, 3) := by decide +kernel
theorem dX1_layOut_143 : decode cX1_layOut 143 = .ok (.iconst 0, 1) := by decide +kernel
theorem dX1_layOut_144 : decode cX1_layOut 144 = .ok (.invokevirtual 125, 3) := by decide +kernel
theorem dX1_layOut_147 : decode cX1_layOut 147 = .ok (.aload_n 0, 1) := by decide +kernel
theorem dX1_layOut_148 : decode cX1_layOut 148 = .ok (.iload 4, 2) := by decide +kernel
theorem dX1_layOut_150 : decode cX1_layOut 150 = .ok (.iconst 3, 1) := by decide +kernel
theorem dX1_layOut_151 : decode cX1_layOut 151 = .ok (.iload 4, 2) := by decide +kernel
theorem dX1_layOut_153 : decode cX1_layOut 153 = .ok (.aload_n 1, 1) := by decide +kernel
theorem dX1_layOut_154 : decode cX1_layOut 154 = .ok (.getfield 122, 3) := by decide +kernel
theorem dX1_layOut_157 : decode cX1_layOut 157 = .ok (.isub, 1) := by decide +kernel
theorem dX1_layOut_158 : decode cX1_layOut 158 = .ok (.iload_n 2, 1) := by decide +kernel
theorem dX1_layOut_159 : decode cX1_layOut 159 = .ok (.ifCond .le 7, 3) := by decide +kernel
theorem dX1_layOut_162 : decode cX1_layOut 162 = .ok (.iconst 1, 1) := by decide +kernel
theorem dX1_layOut_163 : decode cX1_layOut 163 = .ok (.goto 4, 3) := by decide +kernel
theorem dX1_layOut_166 : decode cX1_layOut 166 = .ok (.iconst 0, 1) := by decide +kernel
theorem dX1_layOut_167 : decode cX1_layOut 167 = .ok (.invokevirtual 125, 3) := by decide +kernel
theorem dX1_layOut_170 : decode cX1_layOut 170 = .ok (.iinc 3 1, 3) := by decide +kernel
theorem dX1_layOut_173 : decode cX1_layOut 173 = .ok (.goto (-119), 3) := by decide +kernel
theorem dX1_layOut_176 : decode cX1_layOut 176 = .ok (.iinc 2 1, 3) := by decide +kernel
theorem dX1_layOut_179 : decode cX1_layOut 179 = .ok (.goto (-135), 3) := by decide +kernel
theorem dX1_layOut_182 : decode cX1_layOut 182 = .ok (.aload_n 0, 1) := by decide +kernel
theorem dX1_layOut_183 : decode cX1_layOut 183 = .ok (.invokevirtual 97, 3) := by decide +kernel
theorem dX1_layOut_186 : decode cX1_layOut 186 = .ok (.return_, 1) := by decide +kernel
theorem dX1_join_0 : decode cX1_join 0 = .ok (.iload_n 1, 1) := by decide +kernel
theorem dX1_join_1 : decode cX1_join 1 = .ok (.aload_n 0, 1) := by decide +kernel
theorem dX1_join_2 : decode cX1_join 2 = .ok (.getfield 30, 3) := by decide +kernel
theorem dX1_join_5 : decode cX1_join 5 = .ok (.invokestatic 90, 3) := by decide +kernel
theorem dX1_join_8 : decode cX1_join 8 = .ok (.ifCond .ne 4, 3) := by decide +kernel
theorem dX1_join_11 : decode cX1_join 11 = .ok (.return_, 1) := by decide +kernel
theorem dX1_join_12 : decode cX1_join 12 = .ok (.iload 4, 2) := by decide +kernel
theorem dX1_join_14 : decode cX1_join 14 = .ok (.ifCond .eq 36, 3) := by decide +kernel
theorem dX1_join_17 : decode cX1_join 17 = .ok (.iload_n 3, 1) := by decide +kernel
theorem dX1_join_18 : decode cX1_join 18 = .ok (.aload_n 0, 1) := by decide +kernel
theorem dX1_join_19 : decode cX1_join 19 = .ok (.getfield 30, 3) := by decide +kernel
theorem dX1_join_22 : decode cX1_join 22 = .ok (.invokestatic 90, 3) := by decide +kernel
theorem dX1_join_25 : decode cX1_join 25 = .ok (.ifCond .eq 25, 3) := by decide +kernel
theorem dX1_join_28 : decode cX1_join 28 = .ok (.aload_n 0, 1) := by decide +kernel
theorem dX1_join_29 : decode cX1_join 29 = .ok (.getfield 9, 3) := by decide +kernel
theorem dX1_join_32 : decode cX1_join 32 = .ok (.iload_n 1, 1) := by decide +kernel
theorem dX1_join_33 : decode cX1_join 33 = .ok (.iaload, 1) := by decide +kernel
theorem dX1_join_34 : decode cX1_join 34 = .ok (.ifCond .le 16, 3) := by decide +kernel
theorem dX1_join_37 : decode cX1_join 37 = .ok (.aload_n 0, 1) := by decide +kernel
theorem dX1_join_38 : decode cX1_join 38 = .ok (.getfield 9, 3) := by decide +kernel
theorem dX1_join_41 : decode cX1_join 41 = .ok (.iload_n 3, 1) := by decide +kernel
theorem dX1_join_42 : decode cX1_join 42 = .ok (.iaload, 1) := by decide +kernel
theorem dX1_join_43 : decode cX1_join 43 = .ok (.ifCond .le 7, 3) := by decide +kernel
theorem dX1_join_46 : decode cX1_join 46 = .ok (.iconst 1, 1) := by decide +kernel
theorem dX1_join_47 : decode cX1_join 47 = .ok (.goto 4, 3) := by decide +kernel
theorem dX1_join_50 : decode cX1_join 50 = .ok (.iconst 0, 1) := by decide +kernel
theorem dX1_join_51 : decode cX1_join 51 = .ok (.istore 5, 2) := by decide +kernel
theorem dX1_join_53 : decode cX1_join 53 = .ok (.aload_n 0, 1) := by decide +kernel
theorem dX1_join_54 : decode cX1_join 54 = .ok (.getfield 15, 3) := by decide +kernel
theorem dX1_join_57 : decode cX1_join 57 = .ok (.iconst 4, 1) := by decide +kernel
theorem dX1_join_58 : decode cX1_join 58 = .ok (.iload_n 1, 1) := by decide +kernel
theorem dX1_join_59 : decode cX1_join 59 = .ok (.imul, 1) := by decide +kernel
theorem dX1_join_60 : decode cX1_join 60 = .ok (.iload_n 2, 1) := by decide +kernel
theorem dX1_join_61 : decode cX1_join 61 = .ok (.iadd, 1) := by decide +kernel
theorem dX1_join_62 : decode cX1_join 62 = .ok (.iload 5, 2) := by decide +kernel
theorem dX1_join_64 : decode cX1_join 64 = .ok (.ifCond .eq 7, 3) := by decide +kernel
theorem dX1_join_67 : decode cX1_join 67 = .ok (.iload_n 3, 1) := by decide +kernel
theorem dX1_join_68 : decode cX1_join 68 = .ok (.goto 5, 3) := by decide +kernel
theorem dX1_join_71 : decode cX1_join 71 = .ok (.ldc 77, 2) := by decide +kernel
theorem dX1_join_73 : decode cX1_join 73 = .ok (.iastore, 1) := by decide +kernel
theorem dX1_join_74 : decode cX1_join 74 = .ok (.return_, 1) := by decide +kernel
theorem dX1_empty_0 : decode cX1_empty 0 = .ok (.aload_n 0, 1) := by decide +kernel
theorem dX1_empty_1 : decode cX1_empty 1 = .ok (.iconst 0, 1) := by decide +kernel
theorem dX1_empty_2 : decode cX1_empty 2 = .ok (.putfield 34, 3) := by decide +kernel
theorem dX1_empty_5 : decode cX1_empty 5 = .ok (.iconst 0, 1) := by decide +kernel
theorem dX1_empty_6 : decode cX1_empty 6 = .ok (.istore_n 1, 1) := by decide +kernel
theorem dX1_empty_7 : decode cX1_empty 7 = .ok (.iload_n 1, 1) := by decide +kernel
theorem dX1_empty_8 : decode cX1_empty 8 = .ok (.aload_n 0, 1) := by decide +kernel
theorem dX1_empty_9 : decode cX1_empty 9 = .ok (.getfield 30, 3) := by decide +kernel
theorem dX1_empty_12 : decode cX1_empty 12 = .ok (.if_icmp .ge 17, 3) := by decide +kernel
theorem dX1_empty_15 : decode cX1_empty 15 = .ok (.aload_n 0, 1) := by decide +kernel
theorem dX1_empty_16 : decode cX1_empty 16 = .ok (.getfield 18, 3) := by decide +kernel
theorem dX1_empty_19 : decode cX1_empty 19 = .ok (.iload_n 1, 1) := by decide +kernel
theorem dX1_empty_20 : decode cX1_empty 20 = .ok (.ldc 96, 2) := by decide +kernel
theorem dX1_empty_22 : decode cX1_empty 22 = .ok (.iastore, 1) := by decide +kernel
theorem dX1_empty_23 : decode cX1_empty 23 = .ok (.iinc 1 1, 3) := by decide +kernel
theorem dX1_empty_26 : decode cX1_empty 26 = .ok (.goto (-19), 3) := by decide +kernel
theorem dX1_empty_29 : decode cX1_empty 29 = .ok (.return_, 1) := by decide +kernel
theorem dX1_startAt_0 : decode cX1_startAt 0 = .ok (.iload_n 1, 1) := by decide +kernel
theorem dX1_startAt_1 : decode cX1_startAt 1 = .ok (.aload_n 0, 1) := by decide +kernel
theorem dX1_startAt_2 : decode cX1_startAt 2 = .ok (.getfield 30, 3) := by decide +kernel
theorem dX1_startAt_5 : decode cX1_startAt 5 = .ok (.invokestatic 90, 3) := by decide +kernel
theorem dX1_startAt_8 : decode cX1_startAt 8 = .ok (.ifCond .eq 19, 3) := by decide +kernel
theorem dX1_startAt_11 : decode cX1_startAt 11 = .ok (.aload_n 0, 1) := by decide +kernel
theorem dX1_startAt_12 : decode cX1_startAt 12 = .ok (.getfield 18, 3) := by decide +kernel
theorem dX1_startAt_15 : decode cX1_startAt 15 = .ok (.iload_n 1, 1) := by decide +kernel
theorem dX1_startAt_16 : decode cX1_startAt 16 = .ok (.iconst 4, 1) := by decide +kernel
theorem dX1_startAt_17 : decode cX1_startAt 17 = .ok (.aload_n 0, 1) := by decide +kernel
theorem dX1_startAt_18 : decode cX1_startAt 18 = .ok (.getfield 9, 3) := by decide +kernel
theorem dX1_startAt_21 : decode cX1_startAt 21 = .ok (.iload_n 1, 1) := by decide +kernel
theorem dX1_startAt_22 : decode cX1_startAt 22 = .ok (.iaload, 1) := by decide +kernel
theorem dX1_startAt_23 : decode cX1_startAt 23 = .ok (.imul, 1) := by decide +kernel
theorem dX1_startAt_24 : decode cX1_startAt 24 = .ok (.iload_n 2, 1) := by decide +kernel
theorem dX1_startAt_25 : decode cX1_startAt 25 = .ok (.iadd, 1) := by decide +kernel
theorem dX1_startAt_26 : decode cX1_startAt 26 = .ok (.iastore, 1) := by decide +kernel
theorem dX1_startAt_27 : decode cX1_startAt 27 = .ok (.return_, 1) := by decide +kernel
theorem dX1_flowOn_0 : decode cX1_flowOn 0 = .ok (.iconst 1, 1) := by decide +kernel
theorem dX1_flowOn_1 : decode cX1_flowOn 1 = .ok (.istore_n 1, 1) := by decide +kernel
theorem dX1_flowOn_2 : decode cX1_flowOn 2 = .ok (.iconst 0, 1) := by decide +kernel
theorem dX1_flowOn_3 : decode cX1_flowOn 3 = .ok (.istore_n 2, 1) := by decide +kernel
theorem dX1_flowOn_4 : decode cX1_flowOn 4 = .ok (.iload_n 2, 1) := by decide +kernel
theorem dX1_flowOn_5 : decode cX1_flowOn 5 = .ok (.aload_n 0, 1) := by decide +kernel
theorem dX1_flowOn_6 : decode cX1_flowOn 6 = .ok (.getfield 30, 3) := by decide +kernel
theorem dX1_flowOn_9 : decode cX1_flowOn 9 = .ok (.if_icmp .ge 68, 3) := by decide +kernel
theorem dX1_flowOn_12 : decode cX1_flowOn 12 = .ok (.iload_n 1, 1) := by decide +kernel
theorem dX1_flowOn_13 : decode cX1_flowOn 13 = .ok (.ifCond .eq 64, 3) := by decide +kernel
theorem dX1_flowOn_16 : decode cX1_flowOn 16 = .ok (.iconst 0, 1) := by decide +kernel
theorem dX1_flowOn_17 : decode cX1_flowOn 17 = .ok (.istore_n 1, 1) := by decide +kernel
theorem dX1_flowOn_18 : decode cX1_flowOn 18 = .ok (.iconst 0, 1) := by decide +kernel
theorem dX1_flowOn_19 : decode cX1_flowOn 19 = .ok (.istore_n 3, 1) := by decide +kernel
theorem dX1_flowOn_20 : decode cX1_flowOn 20 = .ok (.iload_n 3, 1) := by decide +kernel
theorem dX1_flowOn_21 : decode cX1_flowOn 21 = .ok (.aload_n 0, 1) := by decide +kernel
theorem dX1_flowOn_22 : decode cX1_flowOn 22 = .ok (.getfield 30, 3) := by decide +kernel
theorem dX1_flowOn_25 : decode cX1_flowOn 25 = .ok (.if_icmp .ge 19, 3) := by decide +kernel
theorem dX1_flowOn_28 : decode cX1_flowOn 28 = .ok (.aload_n 0, 1) := by decide +kernel
theorem dX1_flowOn_29 : decode cX1_flowOn 29 = .ok (.iload_n 3, 1) := by decide +kernel
theorem dX1_flowOn_30 : decode cX1_flowOn 30 = .ok (.invokevirtual 129, 3) := by decide +kernel
theorem dX1_flowOn_33 : decode cX1_flowOn 33 = .ok (.ifCond .eq 5, 3) := by decide +kernel
theorem dX1_flowOn_36 : decode cX1_flowOn 36 = .ok (.iconst 1, 1) := by decide +kernel
theorem dX1_flowOn_37 : decode cX1_flowOn 37 = .ok (.istore_n 1, 1) := by decide +kernel
theorem dX1_flowOn_38 : decode cX1_flowOn 38 = .ok (.iinc 3 1, 3) := by decide +kernel
theorem dX1_flowOn_41 : decode cX1_flowOn 41 = .ok (.goto (-21), 3) := by decide +kernel
theorem dX1_flowOn_44 : decode cX1_flowOn 44 = .ok (.aload_n 0, 1) := by decide +kernel
theorem dX1_flowOn_45 : decode cX1_flowOn 45 = .ok (.getfield 30, 3) := by decide +kernel
theorem dX1_flowOn_48 : decode cX1_flowOn 48 = .ok (.iconst 1, 1) := by decide +kernel
theorem dX1_flowOn_49 : decode cX1_flowOn 49 = .ok (.isub, 1) := by decide +kernel
theorem dX1_flowOn_50 : decode cX1_flowOn 50 = .ok (.istore_n 3, 1) := by decide +kernel
theorem dX1_flowOn_51 : decode cX1_flowOn 51 = .ok (.iload_n 3, 1) := by decide +kernel
theorem dX1_flowOn_52 : decode cX1_flowOn 52 = .ok (.ifCond .lt 19, 3) := by decide +kernel
theorem dX1_flowOn_55 : decode cX1_flowOn 55 = .ok (.aload_n 0, 1) := by decide +kernel
theorem dX1_flowOn_56 : decode cX1_flowOn 56 = .ok (.iload_n 3, 1) := by decide +kernel
theorem dX1_flowOn_57 : decode cX1_flowOn 57 = .ok (.invokevirtual 129, 3) := by decide +kernel
theorem dX1_flowOn_60 : decode cX1_flowOn 60 = .ok (.ifCond .eq 5, 3) := by decide +kernel
theorem dX1_flowOn_63 : decode cX1_flowOn 63 = .ok (.iconst 1, 1) := by decide +kernel
theorem dX1_flowOn_64 : decode cX1_flowOn 64 = .ok (.istore_n 1, 1) := by decide +kernel
theorem dX1_flowOn_65 : decode cX1_flowOn 65 = .ok (.iinc 3 (-1), 3) := by decide +kernel
theorem dX1_flowOn_68 : decode cX1_flowOn 68 = .ok (.goto (-17), 3) := by decide +kernel
theorem dX1_flowOn_71 : decode cX1_flowOn 71 = .ok (.iinc 2 1, 3) := by decide +kernel
theorem dX1_flowOn_74 : decode cX1_flowOn 74 = .ok (.goto (-70), 3) := by decide +kernel
theorem dX1_flowOn_77 : decode cX1_flowOn 77 = .ok (.return_, 1) := by decide +kernel
theorem dX1_ease_0 : decode cX1_ease 0 = .ok (.ldc 96, 2) := by decide +kernel
theorem dX1_ease_2 : decode cX1_ease 2 = .ok (.istore_n 2, 1) := by decide +kernel
theorem dX1_ease_3 : decode cX1_ease 3 = .ok (.iconst 4, 1) := by decide +kernel
theorem dX1_ease_4 : decode cX1_ease 4 = .ok (.iload_n 1, 1) := by decide +kernel
theorem dX1_ease_5 : decode cX1_ease 5 = .ok (.imul, 1) := by decide +kernel
theorem dX1_ease_6 : decode cX1_ease 6 = .ok (.istore_n 3, 1) := by decide +kernel
theorem dX1_ease_7 : decode cX1_ease 7 = .ok (.iload_n 3, 1) := by decide +kernel
theorem dX1_ease_8 : decode cX1_ease 8 = .ok (.iconst 4, 1) := by decide +kernel
theorem dX1_ease_9 : decode cX1_ease 9 = .ok (.iload_n 1, 1) := by decide +kernel
theorem dX1_ease_10 : decode cX1_ease 10 = .ok (.imul, 1) := by decide +kernel
theorem dX1_ease_11 : decode cX1_ease 11 = .ok (.iconst 4, 1) := by decide +kernel
theorem dX1_ease_12 : decode cX1_ease 12 = .ok (.iadd, 1) := by decide +kernel
theorem dX1_ease_13 : decode cX1_ease 13 = .ok (.if_icmp .ge 43, 3) := by decide +kernel
theorem dX1_ease_16 : decode cX1_ease 16 = .ok (.aload_n 0, 1) := by decide +kernel
theorem dX1_ease_17 : decode cX1_ease 17 = .ok (.getfield 15, 3) := by decide +kernel
theorem dX1_ease_20 : decode cX1_ease 20 = .ok (.iload_n 3, 1) := by decide +kernel
theorem dX1_ease_21 : decode cX1_ease 21 = .ok (.iaload, 1) := by decide +kernel
theorem dX1_ease_22 : decode cX1_ease 22 = .ok (.istore 4, 2) := by decide +kernel
theorem dX1_ease_24 : decode cX1_ease 24 = .ok (.iload 4, 2) := by decide +kernel
theorem dX1_ease_26 : decode cX1_ease 26 = .ok (.ldc 77, 2) := by decide +kernel
theorem dX1_ease_28 : decode cX1_ease 28 = .ok (.if_icmp .eq 22, 3) := by decide +kernel
theorem dX1_ease_31 : decode cX1_ease 31 = .ok (.aload_n 0, 1) := by decide +kernel
theorem dX1_ease_32 : decode cX1_ease 32 = .ok (.getfield 18, 3) := by decide +kernel
theorem dX1_ease_35 : decode cX1_ease 35 = .ok (.iload 4, 2) := by decide +kernel
theorem dX1_ease_37 : decode cX1_ease 37 = .ok (.iaload, 1) := by decide +kernel
theorem dX1_ease_38 : decode cX1_ease 38 = .ok (.iload_n 2, 1) := by decide +kernel
theorem dX1_ease_39 : decode cX1_ease 39 = .ok (.if_icmp .ge 11, 3) := by decide +kernel
theorem dX1_ease_42 : decode cX1_ease 42 = .ok (.aload_n 0, 1) := by decide +kernel
theorem dX1_ease_43 : decode cX1_ease 43 = .ok (.getfield 18, 3) := by decide +kernel
theorem dX1_ease_46 : decode cX1_ease 46 = .ok (.iload 4, 2) := by decide +kernel
theorem dX1_ease_48 : decode cX1_ease 48 = .ok (.iaload, 1) := by decide +kernel
theorem dX1_ease_49 : decode cX1_ease 49 = .ok (.istore_n 2, 1) := by decide +kernel
theorem dX1_ease_50 : decode cX1_ease 50 = .ok (.iinc 3 1, 3) := by decide +kernel
theorem dX1_ease_53 : decode cX1_ease 53 = .ok (.goto (-46), 3) := by decide +kernel
theorem dX1_ease_56 : decode cX1_ease 56 = .ok (.iload_n 2, 1) := by decide +kernel
theorem dX1_ease_57 : decode cX1_ease 57 = .ok (.ldc 96, 2) := by decide +kernel
theorem dX1_ease_59 : decode cX1_ease 59 = .ok (.if_icmp .ne 5, 3) := by decide +kernel
theorem dX1_ease_62 : decode cX1_ease 62 = .ok (.iconst 0, 1) := by decide +kernel
theorem dX1_ease_63 : decode cX1_ease 63 = .ok (.ireturn, 1) := by decide +kernel
theorem dX1_ease_64 : decode cX1_ease 64 = .ok (.iload_n 2, 1) := by decide +kernel
theorem dX1_ease_65 : decode cX1_ease 65 = .ok (.iconst 4, 1) := by decide +kernel
theorem dX1_ease_66 : decode cX1_ease 66 = .ok (.aload_n 0, 1) := by decide +kernel
theorem dX1_ease_67 : decode cX1_ease 67 = .ok (.getfield 9, 3) := by decide +kernel
theorem dX1_ease_70 : decode cX1_ease 70 = .ok (.iload_n 1, 1) := by decide +kernel
theorem dX1_ease_71 : decode cX1_ease 71 = .ok (.iaload, 1) := by decide +kernel
theorem dX1_ease_72 : decode cX1_ease 72 = .ok (.imul, 1) := by decide +kernel
theorem dX1_ease_73 : decode cX1_ease 73 = .ok (.iadd, 1) := by decide +kernel
theorem dX1_ease_74 : decode cX1_ease 74 = .ok (.istore_n 3, 1) := by decide +kernel
theorem dX1_ease_75 : decode cX1_ease 75 = .ok (.iload_n 3, 1) := by decide +kernel
theorem dX1_ease_76 : decode cX1_ease 76 = .ok (.aload_n 0, 1) := by decide +kernel
theorem dX1_ease_77 : decode cX1_ease 77 = .ok (.getfield 18, 3) := by decide +kernel
theorem dX1_ease_80 : decode cX1_ease 80 = .ok (.iload_n 1, 1) := by decide +kernel
theorem dX1_ease_81 : decode cX1_ease 81 = .ok (.iaload, 1) := by decide +kernel
theorem dX1_ease_82 : decode cX1_ease 82 = .ok (.if_icmp .lt 5, 3) := by decide +kernel
theorem dX1_ease_85 : decode cX1_ease 85 = .ok (.iconst 0, 1) := by decide +kernel
theorem dX1_ease_86 : decode cX1_ease 86 = .ok (.ireturn, 1) := by decide +kernel
theorem dX1_ease_87 : decode cX1_ease 87 = .ok (.aload_n 0, 1) := by decide +kernel
theorem dX1_ease_88 : decode cX1_ease 88 = .ok (.getfield 18, 3) := by decide +kernel
theorem dX1_ease_91 : decode cX1_ease 91 = .ok (.iload_n 1, 1) := by decide +kernel
theorem dX1_ease_92 : decode cX1_ease 92 = .ok (.iload_n 3, 1) := by decide +kernel
theorem dX1_ease_93 : decode cX1_ease 93 = .ok (.iastore, 1) := by decide +kernel
theorem dX1_ease_94 : decode cX1_ease 94 = .ok (.iconst 1, 1) := by decide +kernel
theorem dX1_ease_95 : decode cX1_ease 95 = .ok (.ireturn, 1) := by decide +kernel
theorem dX1_putInOrder_0 : decode cX1_putInOrder 0 = .ok (.aload_n 0, 1) := by decide +kernel
theorem dX1_putInOrder_1 : decode cX1_putInOrder 1 = .ok (.iconst 0, 1) := by decide +kernel
theorem dX1_putInOrder_2 : decode cX1_putInOrder 2 = .ok (.putfield 34, 3) := by decide +kernel
theorem dX1_putInOrder_5 : decode cX1_putInOrder 5 = .ok (.iconst 0, 1) := by decide +kernel
theorem dX1_putInOrder_6 : decode cX1_putInOrder 6 = .ok (.istore_n 1, 1) := by decide +kernel
theorem dX1_putInOrder_7 : decode cX1_putInOrder 7 = .ok (.iload_n 1, 1) := by decide +kernel
theorem dX1_putInOrder_8 : decode cX1_putInOrder 8 = .ok (.aload_n 0, 1) := by decide +kernel
theorem dX1_putInOrder_9 : decode cX1_putInOrder 9 = .ok (.getfield 30, 3) := by decide +kernel
theorem dX1_putInOrder_12 : decode cX1_putInOrder 12 = .ok (.if_icmp .ge 86, 3) := by decide +kernel
theorem dX1_putInOrder_15 : decode cX1_putInOrder 15 = .ok (.aload_n 0, 1) := by decide +kernel
theorem dX1_putInOrder_16 : decode cX1_putInOrder 16 = .ok (.iload_n 1, 1) := by decide +kernel
theorem dX1_putInOrder_17 : decode cX1_putInOrder 17 = .ok (.invokevirtual 73, 3) := by decide +kernel
theorem dX1_putInOrder_20 : decode cX1_putInOrder 20 = .ok (.ifCond .ne 6, 3) := by decide +kernel
theorem dX1_putInOrder_23 : decode cX1_putInOrder 23 = .ok (.goto 69, 3) := by decide +kernel
theorem dX1_putInOrder_26 : decode cX1_putInOrder 26 = .ok (.aload_n 0, 1) := by decide +kernel
theorem dX1_putInOrder_27 : decode cX1_putInOrder 27 = .ok (.getfield 34, 3) := by decide +kernel
theorem dX1_putInOrder_30 : decode cX1_putInOrder 30 = .ok (.istore_n 2, 1) := by decide +kernel
theorem dX1_putInOrder_31 : decode cX1_putInOrder 31 = .ok (.iload_n 2, 1) := by decide +kernel
theorem dX1_putInOrder_32 : decode cX1_putInOrder 32 = .ok (.ifCond .le 43, 3) := by decide +kernel
theorem dX1_putInOrder_35 : decode cX1_putInOrder 35 = .ok (.aload_n 0, 1) := by decide +kernel
theorem dX1_putInOrder_36 : decode cX1_putInOrder 36 = .ok (.aload_n 0, 1) := by decide +kernel
theorem dX1_putInOrder_37 : decode cX1_putInOrder 37 = .ok (.getfield 21, 3) := by decide +kernel
theorem dX1_putInOrder_40 : decode cX1_putInOrder 40 = .ok (.iload_n 2, 1) := by decide +kernel
theorem dX1_putInOrder_41 : decode cX1_putInOrder 41 = .ok (.iconst 1, 1) := by decide +kernel
theorem dX1_putInOrder_42 : decode cX1_putInOrder 42 = .ok (.isub, 1) := by decide +kernel
theorem dX1_putInOrder_43 : decode cX1_putInOrder 43 = .ok (.iaload, 1) := by decide +kernel
theorem dX1_putInOrder_44 : decode cX1_putInOrder 44 = .ok (.invokevirtual 69, 3) := by decide +kernel
theorem dX1_putInOrder_47 : decode cX1_putInOrder 47 = .ok (.aload_n 0, 1) := by decide +kernel
theorem dX1_putInOrder_48 : decode cX1_putInOrder 48 = .ok (.iload_n 1, 1) := by decide +kernel
theorem dX1_putInOrder_49 : decode cX1_putInOrder 49 = .ok (.invokevirtual 69, 3) := by decide +kernel
theorem dX1_putInOrder_52 : decode cX1_putInOrder 52 = .ok (.if_icmp .le 23, 3) := by decide +kernel
theorem dX1_putInOrder_55 : decode cX1_putInOrder 55 = .ok (.aload_n 0, 1) := by decide +kernel
theorem dX1_putInOrder_56 : decode cX1_putInOrder 56 = .ok (.getfield 21, 3) := by decide +kernel
theorem dX1_putInOrder_59 : decode cX1_putInOrder 59 = .ok (.iload_n 2, 1) := by decide +kernel
theorem dX1_putInOrder_60 : decode cX1_putInOrder 60 = .ok (.aload_n 0, 1) := by decide +kernel
theorem dX1_putInOrder_61 : decode cX1_putInOrder 61 = .ok (.getfield 21, 3) := by decide +kernel
theorem dX1_putInOrder_64 : decode cX1_putInOrder 64 = .ok (.iload_n 2, 1) := by decide +kernel
theorem dX1_putInOrder_65 : decode cX1_putInOrder 65 = .ok (.iconst 1, 1) := by decide +kernel
theorem dX1_putInOrder_66 : decode cX1_putInOrder 66 = .ok (.isub, 1) := by decide +kernel
theorem dX1_putInOrder_67 : decode cX1_putInOrder 67 = .ok (.iaload, 1) := by decide +kernel
theorem dX1_putInOrder_68 : decode cX1_putInOrder 68 = .ok (.iastore, 1) := by decide +kernel
theorem dX1_putInOrder_69 : decode cX1_putInOrder 69 = .ok (.iinc 2 (-1), 3) := by decide +kernel
theorem dX1_putInOrder_72 : decode cX1_putInOrder 72 = .ok (.goto (-41), 3) := by decide +kernel
theorem dX1_putInOrder_75 : decode cX1_putInOrder 75 = .ok (.aload_n 0, 1) := by decide +kernel
theorem dX1_putInOrder_76 : decode cX1_putInOrder 76 = .ok (.getfield 21, 3) := by decide +kernel
theorem dX1_putInOrder_79 : decode cX1_putInOrder 79 = .ok (.iload_n 2, 1) := by decide +kernel
theorem dX1_putInOrder_80 : decode cX1_putInOrder 80 = .ok (.iload_n 1, 1) := by decide +kernel
theorem dX1_putInOrder_81 : decode cX1_putInOrder 81 = .ok (.iastore, 1) := by decide +kernel
theorem dX1_putInOrder_82 : decode cX1_putInOrder 82 = .ok (.aload_n 0, 1) := by decide +kernel
theorem dX1_putInOrder_83 : decode cX1_putInOrder 83 = .ok (.dup, 1) := by decide +kernel
theorem dX1_putInOrder_84 : decode cX1_putInOrder 84 = .ok (.getfield 34, 3) := by decide +kernel
theorem dX1_putInOrder_87 : decode cX1_putInOrder 87 = .ok (.iconst 1, 1) := by decide +kernel
theorem dX1_putInOrder_88 : decode cX1_putInOrder 88 = .ok (.iadd, 1) := by decide +kernel
theorem dX1_putInOrder_89 : decode cX1_putInOrder 89 = .ok (.putfield 34, 3) := by decide +kernel
theorem dX1_putInOrder_92 : decode cX1_putInOrder 92 = .ok (.iinc 1 1, 3) := by decide +kernel
theorem dX1_putInOrder_95 : decode cX1_putInOrder 95 = .ok (.goto (-88), 3) := by decide +kernel
theorem dX1_putInOrder_98 : decode cX1_putInOrder 98 = .ok (.iconst 0, 1) := by decide +kernel
theorem dX1_putInOrder_99 : decode cX1_putInOrder 99 = .ok (.istore_n 1, 1) := by decide +kernel
theorem dX1_putInOrder_100 : decode cX1_putInOrder 100 = .ok (.iload_n 1, 1) := by decide +kernel
theorem dX1_putInOrder_101 : decode cX1_putInOrder 101 = .ok (.aload_n 0, 1) := by decide +kernel
theorem dX1_putInOrder_102 : decode cX1_putInOrder 102 = .ok (.getfield 34, 3) := by decide +kernel
theorem dX1_putInOrder_105 : decode cX1_putInOrder 105 = .ok (.if_icmp .ge 21, 3) := by decide +kernel
theorem dX1_putInOrder_108 : decode cX1_putInOrder 108 = .ok (.aload_n 0, 1) := by decide +kernel
theorem dX1_putInOrder_109 : decode cX1_putInOrder 109 = .ok (.getfield 24, 3) := by decide +kernel
theorem dX1_putInOrder_112 : decode cX1_putInOrder 112 = .ok (.aload_n 0, 1) := by decide +kernel
theorem dX1_putInOrder_113 : decode cX1_putInOrder 113 = .ok (.getfield 21, 3) := by decide +kernel
theorem dX1_putInOrder_116 : decode cX1_putInOrder 116 = .ok (.iload_n 1, 1) := by decide +kernel
theorem dX1_putInOrder_117 : decode cX1_putInOrder 117 = .ok (.iaload, 1) := by decide +kernel
theorem dX1_putInOrder_118 : decode cX1_putInOrder 118 = .ok (.iload_n 1, 1) := by decide +kernel
theorem dX1_putInOrder_119 : decode cX1_putInOrder 119 = .ok (.iastore, 1) := by decide +kernel
theorem dX1_putInOrder_120 : decode cX1_putInOrder 120 = .ok (.iinc 1 1, 3) := by decide +kernel
theorem dX1_putInOrder_123 : decode cX1_putInOrder 123 = .ok (.goto (-23), 3) := by decide +kernel
theorem dX1_putInOrder_126 : decode cX1_putInOrder 126 = .ok (.return_, 1) := by decide +kernel
theorem dX2_init_0 : decode cX2_init 0 = .ok (.aload_n 0, 1) := by decide +kernel
theorem dX2_init_1 : decode cX2_init 1 = .ok (.invokespecial 1, 3) := by decide +kernel
theorem dX2_init_4 : decode cX2_init 4 = .ok (.aload_n 0, 1) := by decide +kernel
theorem dX2_init_5 : decode cX2_init 5 = .ok (.iconst 0, 1) := by decide +kernel
theorem dX2_init_6 : decode cX2_init 6 = .ok (.putfield 7, 3) := by decide +kernel
theorem dX2_init_9 : decode cX2_init 9 = .ok (.aload_n 0, 1) := by decide +kernel
theorem dX2_init_10 : decode cX2_init 10 = .ok (.aload_n 1, 1) := by decide +kernel
theorem dX2_init_11 : decode cX2_init 11 = .ok (.putfield 13, 3) := by decide +kernel
theorem dX2_init_14 : decode cX2_init 14 = .ok (.aload_n 0, 1) := by decide +kernel
theorem dX2_init_15 : decode cX2_init 15 = .ok (.iload_n 2, 1) := by decide +kernel
theorem dX2_init_16 : decode cX2_init 16 = .ok (.putfield 17, 3) := by decide +kernel
theorem dX2_init_19 : decode cX2_init 19 = .ok (.return_, 1) := by decide +kernel
theorem dX2_told_0 : decode cX2_told 0 = .ok (.iconst 4, 1) := by decide +kernel
theorem dX2_told_1 : decode cX2_told 1 = .ok (.ireturn, 1) := by decide +kernel
theorem dX2_isOf_0 : decode cX2_isOf 0 = .ok (.iload_n 1, 1) := by decide +kernel
theorem dX2_isOf_1 : decode cX2_isOf 1 = .ok (.iconst 4, 1) := by decide +kernel
theorem dX2_isOf_2 : decode cX2_isOf 2 = .ok (.if_icmp .eq 11, 3) := by decide +kernel
theorem dX2_isOf_5 : decode cX2_isOf 5 = .ok (.aload_n 0, 1) := by decide +kernel
theorem dX2_isOf_6 : decode cX2_isOf 6 = .ok (.iload_n 1, 1) := by decide +kernel
theorem dX2_isOf_7 : decode cX2_isOf 7 = .ok (.invokespecial 20, 3) := by decide +kernel
theorem dX2_isOf_10 : decode cX2_isOf 10 = .ok (.ifCond .eq 7, 3) := by decide +kernel
theorem dX2_isOf_13 : decode cX2_isOf 13 = .ok (.iconst 1, 1) := by decide +kernel
theorem dX2_isOf_14 : decode cX2_isOf 14 = .ok (.goto 4, 3) := by decide +kernel
theorem dX2_isOf_17 : decode cX2_isOf 17 = .ok (.iconst 0, 1) := by decide +kernel
theorem dX2_isOf_18 : decode cX2_isOf 18 = .ok (.ireturn, 1) := by decide +kernel
theorem dX2_weigh_0 : decode cX2_weigh 0 = .ok (.aload_n 1, 1) := by decide +kernel
theorem dX2_weigh_1 : decode cX2_weigh 1 = .ok (.bipush 13, 2) := by decide +kernel
theorem dX2_weigh_3 : decode cX2_weigh 3 = .ok (.invokevirtual 24, 3) := by decide +kernel
theorem dX2_weigh_6 : decode cX2_weigh 6 = .ok (.aload_n 0, 1) := by decide +kernel
theorem dX2_weigh_7 : decode cX2_weigh 7 = .ok (.getfield 13, 3) := by decide +kernel
theorem dX2_weigh_10 : decode cX2_weigh 10 = .ok (.arraylength, 1) := by decide +kernel
theorem dX2_weigh_11 : decode cX2_weigh 11 = .ok (.ireturn, 1) := by decide +kernel
theorem dX2_mark_0 : decode cX2_mark 0 = .ok (.aload_n 1, 1) := by decide +kernel
theorem dX2_mark_1 : decode cX2_mark 1 = .ok (.bipush 22, 2) := by decide +kernel
theorem dX2_mark_3 : decode cX2_mark 3 = .ok (.invokevirtual 24, 3) := by decide +kernel
theorem dX2_mark_6 : decode cX2_mark 6 = .ok (.aload_n 0, 1) := by decide +kernel
theorem dX2_mark_7 : decode cX2_mark 7 = .ok (.invokevirtual 30, 3) := by decide +kernel
theorem dX2_mark_10 : decode cX2_mark 10 = .ok (.ireturn, 1) := by decide +kernel
theorem dX2_greatest_0 : decode cX2_greatest 0 = .ok (.iconst 0, 1) := by decide +kernel
theorem dX2_greatest_1 : decode cX2_greatest 1 = .ok (.istore_n 1, 1) := by decide +kernel
theorem dX2_greatest_2 : decode cX2_greatest 2 = .ok (.aload_n 0, 1) := by decide +kernel
theorem dX2_greatest_3 : decode cX2_greatest 3 = .ok (.getfield 13, 3) := by decide +kernel
theorem dX2_greatest_6 : decode cX2_greatest 6 = .ok (.astore_n 2, 1) := by decide +kernel
theorem dX2_greatest_7 : decode cX2_greatest 7 = .ok (.aload_n 2, 1) := by decide +kernel
theorem dX2_greatest_8 : decode cX2_greatest 8 = .ok (.arraylength, 1) := by decide +kernel
theorem dX2_greatest_9 : decode cX2_greatest 9 = .ok (.istore_n 3, 1) := by decide +kernel
theorem dX2_greatest_10 : decode cX2_greatest 10 = .ok (.iconst 0, 1) := by decide +kernel
theorem dX2_greatest_11 : decode cX2_greatest 11 = .ok (.istore 4, 2) := by decide +kernel
theorem dX2_greatest_13 : decode cX2_greatest 13 = .ok (.iload 4, 2) := by decide +kernel
theorem dX2_greatest_15 : decode cX2_greatest 15 = .ok (.iload_n 3, 1) := by decide +kernel
theorem dX2_greatest_16 : decode cX2_greatest 16 = .ok (.if_icmp .ge 22, 3) := by decide +kernel
theorem dX2_greatest_19 : decode cX2_greatest 19 = .ok (.aload_n 2, 1) := by decide +kernel
theorem dX2_greatest_20 : decode cX2_greatest 20 = .ok (.iload 4, 2) := by decide +kernel
theorem dX2_greatest_22 : decode cX2_greatest 22 = .ok (.iaload, 1) := by decide +kernel
theorem dX2_greatest_23 : decode cX2_greatest 23 = .ok (.istore 5, 2) := by decide +kernel
theorem dX2_greatest_25 : decode cX2_greatest 25 = .ok (.iload_n 1, 1) := by decide +kernel
theorem dX2_greatest_26 : decode cX2_greatest 26 = .ok (.iload 5, 2) := by decide +kernel
theorem dX2_greatest_28 : decode cX2_greatest 28 = .ok (.invokestatic 34, 3) := by decide +kernel
theorem dX2_greatest_31 : decode cX2_greatest 31 = .ok (.istore_n 1, 1) := by decide +kernel
theorem dX2_greatest_32 : decode cX2_greatest 32 = .ok (.iinc 4 1, 3) := by decide +kernel
theorem dX2_greatest_35 : decode cX2_greatest 35 = .ok (.goto (-22), 3) := by decide +kernel
theorem dX2_greatest_38 : decode cX2_greatest 38 = .ok (.iload_n 1, 1) := by decide +kernel
theorem dX2_greatest_39 : decode cX2_greatest 39 = .ok (.ireturn, 1) := by decide +kernel
theorem dX2_beatTill_0 : decode cX2_beatTill 0 = .ok (.iconst 0, 1) := by decide +kernel
theorem dX2_beatTill_1 : decode cX2_beatTill 1 = .ok (.istore 4, 2) := by decide +kernel
theorem dX2_beatTill_3 : decode cX2_beatTill 3 = .ok (.iload 4, 2) := by decide +kernel
theorem dX2_beatTill_5 : decode cX2_beatTill 5 = .ok (.iload_n 1, 1) := by decide +kernel
theorem dX2_beatTill_6 : decode cX2_beatTill 6 = .ok (.if_icmp .ge 22, 3) := by decide +kernel
theorem dX2_beatTill_9 : decode cX2_beatTill 9 = .ok (.aload_n 0, 1) := by decide +kernel
theorem dX2_beatTill_10 : decode cX2_beatTill 10 = .ok (.invokevirtual 30, 3) := by decide +kernel
theorem dX2_beatTill_13 : decode cX2_beatTill 13 = .ok (.iload_n 3, 1) := by decide +kernel
theorem dX2_beatTill_14 : decode cX2_beatTill 14 = .ok (.if_icmp .le 14, 3) := by decide +kernel
theorem dX2_beatTill_17 : decode cX2_beatTill 17 = .ok (.aload_n 0, 1) := by decide +kernel
theorem dX2_beatTill_18 : decode cX2_beatTill 18 = .ok (.iload_n 2, 1) := by decide +kernel
theorem dX2_beatTill_19 : decode cX2_beatTill 19 = .ok (.invokevirtual 40, 3) := by decide +kernel
theorem dX2_beatTill_22 : decode cX2_beatTill 22 = .ok (.iinc 4 1, 3) := by decide +kernel
theorem dX2_beatTill_25 : decode cX2_beatTill 25 = .ok (.goto (-22), 3) := by decide +kernel
theorem dX2_beatTill_28 : decode cX2_beatTill 28 = .ok (.iload 4, 2) := by decide +kernel
theorem dX2_beatTill_30 : decode cX2_beatTill 30 = .ok (.ireturn, 1) := by decide +kernel
theorem dX2_beatOnce_0 : decode cX2_beatOnce 0 = .ok (.aload_n 0, 1) := by decide +kernel
theorem dX2_beatOnce_1 : decode cX2_beatOnce 1 = .ok (.getfield 13, 3) := by decide +kernel
theorem dX2_beatOnce_4 : decode cX2_beatOnce 4 = .ok (.arraylength, 1) := by decide +kernel
theorem dX2_beatOnce_5 : decode cX2_beatOnce 5 = .ok (.ifCond .ne 4, 3) := by decide +kernel
theorem dX2_beatOnce_8 : decode cX2_beatOnce 8 = .ok (.return_, 1) := by decide +kernel
theorem dX2_beatOnce_9 : decode cX2_beatOnce 9 = .ok (.aload_n 0, 1) := by decide +kernel
theorem dX2_beatOnce_10 : decode cX2_beatOnce 10 = .ok (.getfield 17, 3) := by decide +kernel
theorem dX2_beatOnce_13 : decode cX2_beatOnce 13 = .ok (.aload_n 0, 1) := by decide +kernel
theorem dX2_beatOnce_14 : decode cX2_beatOnce 14 = .ok (.getfield 13, 3) := by decide +kernel
theorem dX2_beatOnce_17 : decode cX2_beatOnce 17 = .ok (.iconst 0, 1) := by decide +kernel
theorem dX2_beatOnce_18 : decode cX2_beatOnce 18 = .ok (.iaload, 1) := by decide +kernel
theorem dX2_beatOnce_19 : decode cX2_beatOnce 19 = .ok (.isub, 1) := by decide +kernel
theorem dX2_beatOnce_20 : decode cX2_beatOnce 20 = .ok (.iload_n 1, 1) := by decide +kernel
theorem dX2_beatOnce_21 : decode cX2_beatOnce 21 = .ok (.imul, 1) := by decide +kernel
theorem dX2_beatOnce_22 : decode cX2_beatOnce 22 = .ok (.bipush 16, 2) := by decide +kernel
theorem dX2_beatOnce_24 : decode cX2_beatOnce 24 = .ok (.idiv, 1) := by decide +kernel
theorem dX2_beatOnce_25 : decode cX2_beatOnce 25 = .ok (.istore_n 2, 1) := by decide +kernel
theorem dX2_beatOnce_26 : decode cX2_beatOnce 26 = .ok (.aload_n 0, 1) := by decide +kernel
theorem dX2_beatOnce_27 : decode cX2_beatOnce 27 = .ok (.dup, 1) := by decide +kernel
theorem dX2_beatOnce_28 : decode cX2_beatOnce 28 = .ok (.getfield 7, 3) := by decide +kernel
theorem dX2_beatOnce_31 : decode cX2_beatOnce 31 = .ok (.iload_n 2, 1) := by decide +kernel
theorem dX2_beatOnce_32 : decode cX2_beatOnce 32 = .ok (.isub, 1) := by decide +kernel
theorem dX2_beatOnce_33 : decode cX2_beatOnce 33 = .ok (.putfield 7, 3) := by decide +kernel
theorem dX2_beatOnce_36 : decode cX2_beatOnce 36 = .ok (.iconst 0, 1) := by decide +kernel
theorem dX2_beatOnce_37 : decode cX2_beatOnce 37 = .ok (.istore_n 3, 1) := by decide +kernel
theorem dX2_beatOnce_38 : decode cX2_beatOnce 38 = .ok (.iload_n 3, 1) := by decide +kernel
theorem dX2_beatOnce_39 : decode cX2_beatOnce 39 = .ok (.aload_n 0, 1) := by decide +kernel
theorem dX2_beatOnce_40 : decode cX2_beatOnce 40 = .ok (.getfield 13, 3) := by decide +kernel
theorem dX2_beatOnce_43 : decode cX2_beatOnce 43 = .ok (.arraylength, 1) := by decide +kernel
theorem dX2_beatOnce_44 : decode cX2_beatOnce 44 = .ok (.if_icmp .ge 69, 3) := by decide +kernel
theorem dX2_beatOnce_47 : decode cX2_beatOnce 47 = .ok (.iload_n 3, 1) := by decide +kernel
theorem dX2_beatOnce_48 : decode cX2_beatOnce 48 = .ok (.iconst 1, 1) := by decide +kernel
theorem dX2_beatOnce_49 : decode cX2_beatOnce 49 = .ok (.iadd, 1) := by decide +kernel
theorem dX2_beatOnce_50 : decode cX2_beatOnce 50 = .ok (.aload_n 0, 1) := by decide +kernel
theorem dX2_beatOnce_51 : decode cX2_beatOnce 51 = .ok (.getfield 13, 3) := by decide +kernel
theorem dX2_beatOnce_54 : decode cX2_beatOnce 54 = .ok (.arraylength, 1) := by decide +kernel
theorem dX2_beatOnce_55 : decode cX2_beatOnce 55 = .ok (.if_icmp .ge 14, 3) := by decide +kernel
theorem dX2_beatOnce_58 : decode cX2_beatOnce 58 = .ok (.aload_n 0, 1) := by decide +kernel
theorem dX2_beatOnce_59 : decode cX2_beatOnce 59 = .ok (.getfield 13, 3) := by decide +kernel
theorem dX2_beatOnce_62 : decode cX2_beatOnce 62 = .ok (.iload_n 3, 1) := by decide +kernel
theorem dX2_beatOnce_63 : decode cX2_beatOnce 63 = .ok (.iconst 1, 1) := by decide +kernel
theorem dX2_beatOnce_64 : decode cX2_beatOnce 64 = .ok (.iadd, 1) := by decide +kernel
theorem dX2_beatOnce_65 : decode cX2_beatOnce 65 = .ok (.iaload, 1) := by decide +kernel
theorem dX2_beatOnce_66 : decode cX2_beatOnce 66 = .ok (.goto 7, 3) := by decide +kernel
theorem dX2_beatOnce_69 : decode cX2_beatOnce 69 = .ok (.aload_n 0, 1) := by decide +kernel
theorem dX2_beatOnce_70 : decode cX2_beatOnce 70 = .ok (.getfield 17, 3) := by decide +kernel
theorem dX2_beatOnce_73 : decode cX2_beatOnce 73 = .ok (.istore 4, 2) := by decide +kernel
theorem dX2_beatOnce_75 : decode cX2_beatOnce 75 = .ok (.aload_n 0, 1) := by decide +kernel
theorem dX2_beatOnce_76 : decode cX2_beatOnce 76 = .ok (.getfield 13, 3) := by decide +kernel
theorem dX2_beatOnce_79 : decode cX2_beatOnce 79 = .ok (.iload_n 3, 1) := by decide +kernel
theorem dX2_beatOnce_80 : decode cX2_beatOnce 80 = .ok (.iaload, 1) := by decide +kernel
theorem dX2_beatOnce_81 : decode cX2_beatOnce 81 = .ok (.iload 4, 2) := by decide +kernel
theorem dX2_beatOnce_83 : decode cX2_beatOnce 83 = .ok (.isub, 1) := by decide +kernel
theorem dX2_beatOnce_84 : decode cX2_beatOnce 84 = .ok (.iload_n 1, 1) := by decide +kernel
theorem dX2_beatOnce_85 : decode cX2_beatOnce 85 = .ok (.imul, 1) := by decide +kernel
theorem dX2_beatOnce_86 : decode cX2_beatOnce 86 = .ok (.bipush 16, 2) := by decide +kernel
theorem dX2_beatOnce_88 : decode cX2_beatOnce 88 = .ok (.idiv, 1) := by decide +kernel
theorem dX2_beatOnce_89 : decode cX2_beatOnce 89 = .ok (.istore 5, 2) := by decide +kernel
theorem dX2_beatOnce_91 : decode cX2_beatOnce 91 = .ok (.aload_n 0, 1) := by decide +kernel
theorem dX2_beatOnce_92 : decode cX2_beatOnce 92 = .ok (.getfield 13, 3) := by decide +kernel
theorem dX2_beatOnce_95 : decode cX2_beatOnce 95 = .ok (.iload_n 3, 1) := by decide +kernel
theorem dX2_beatOnce_96 : decode cX2_beatOnce 96 = .ok (.dup2, 1) := by decide +kernel
theorem dX2_beatOnce_97 : decode cX2_beatOnce 97 = .ok (.iaload, 1) := by decide +kernel
theorem dX2_beatOnce_98 : decode cX2_beatOnce 98 = .ok (.iload_n 2, 1) := by decide +kernel
theorem dX2_beatOnce_99 : decode cX2_beatOnce 99 = .ok (.iload 5, 2) := by decide +kernel
theorem dX2_beatOnce_101 : decode cX2_beatOnce 101 = .ok (.isub, 1) := by decide +kernel
theorem dX2_beatOnce_102 : decode cX2_beatOnce 102 = .ok (.iadd, 1) := by decide +kernel
theorem dX2_beatOnce_103 : decode cX2_beatOnce 103 = .ok (.iastore, 1) := by decide +kernel
theorem dX2_beatOnce_104 : decode cX2_beatOnce 104 = .ok (.iload 5, 2) := by decide +kernel
theorem dX2_beatOnce_106 : decode cX2_beatOnce 106 = .ok (.istore_n 2, 1) := by decide +kernel
theorem dX2_beatOnce_107 : decode cX2_beatOnce 107 = .ok (.iinc 3 1, 3) := by decide +kernel
theorem dX2_beatOnce_110 : decode cX2_beatOnce 110 = .ok (.goto (-72), 3) := by decide +kernel
theorem dX2_beatOnce_113 : decode cX2_beatOnce 113 = .ok (.aload_n 0, 1) := by decide +kernel
theorem dX2_beatOnce_114 : decode cX2_beatOnce 114 = .ok (.dup, 1) := by decide +kernel
theorem dX2_beatOnce_115 : decode cX2_beatOnce 115 = .ok (.getfield 7, 3) := by decide +kernel
theorem dX2_beatOnce_118 : decode cX2_beatOnce 118 = .ok (.iload_n 2, 1) := by decide +kernel
theorem dX2_beatOnce_119 : decode cX2_beatOnce 119 = .ok (.iadd, 1) := by decide +kernel
theorem dX2_beatOnce_120 : decode cX2_beatOnce 120 = .ok (.putfield 7, 3) := by decide +kernel
theorem dX2_beatOnce_123 : decode cX2_beatOnce 123 = .ok (.return_, 1) := by decide +kernel
theorem dX3_init_0 : decode cX3_init 0 = .ok (.aload_n 0, 1) := by decide +kernel
theorem dX3_init_1 : decode cX3_init 1 = .ok (.invokespecial 3, 3) := by decide +kernel
theorem dX3_init_4 : decode cX3_init 4 = .ok (.aload_n 0, 1) := by decide +kernel
theorem dX3_init_5 : decode cX3_init 5 = .ok (.iconst 4, 1) := by decide +kernel
theorem dX3_init_6 : decode cX3_init 6 = .ok (.newarray .int, 2) := by decide +kernel
theorem dX3_init_8 : decode cX3_init 8 = .ok (.putfield 9, 3) := by decide +kernel
theorem dX3_init_11 : decode cX3_init 11 = .ok (.aload_n 0, 1) := by decide +kernel
theorem dX3_init_12 : decode cX3_init 12 = .ok (.iconst 0, 1) := by decide +kernel
theorem dX3_init_13 : decode cX3_init 13 = .ok (.putfield 15, 3) := by decide +kernel
theorem dX3_init_16 : decode cX3_init 16 = .ok (.aload_n 0, 1) := by decide +kernel
theorem dX3_init_17 : decode cX3_init 17 = .ok (.iconst 0, 1) := by decide +kernel
theorem dX3_init_18 : decode cX3_init 18 = .ok (.putfield 19, 3) := by decide +kernel
theorem dX3_init_21 : decode cX3_init 21 = .ok (.aload_n 0, 1) := by decide +kernel
theorem dX3_init_22 : decode cX3_init 22 = .ok (.iconst 0, 1) := by decide +kernel
theorem dX3_init_23 : decode cX3_init 23 = .ok (.putfield 22, 3) := by decide +kernel
theorem dX3_init_26 : decode cX3_init 26 = .ok (.aload_n 0, 1) := by decide +kernel
theorem dX3_init_27 : decode cX3_init 27 = .ok (.ldc 26, 2) := by decide +kernel
theorem dX3_init_29 : decode cX3_init 29 = .ok (.putfield 27, 3) := by decide +kernel
theorem dX3_init_32 : decode cX3_init 32 = .ok (.aload_n 0, 1) := by decide +kernel
theorem dX3_init_33 : decode cX3_init 33 = .ok (.iload_n 1, 1) := by decide +kernel
theorem dX3_init_34 : decode cX3_init 34 = .ok (.putfield 30, 3) := by decide +kernel
theorem dX3_init_37 : decode cX3_init 37 = .ok (.aload_n 0, 1) := by decide +kernel
theorem dX3_init_38 : decode cX3_init 38 = .ok (.iload_n 2, 1) := by decide +kernel
theorem dX3_init_39 : decode cX3_init 39 = .ok (.putfield 33, 3) := by decide +kernel
theorem dX3_init_42 : decode cX3_init 42 = .ok (.aload_n 0, 1) := by decide +kernel
theorem dX3_init_43 : decode cX3_init 43 = .ok (.aload_n 3, 1) := by decide +kernel
theorem dX3_init_44 : decode cX3_init 44 = .ok (.putfield 36, 3) := by decide +kernel
theorem dX3_init_47 : decode cX3_init 47 = .ok (.aload_n 0, 1) := by decide +kernel
theorem dX3_init_48 : decode cX3_init 48 = .ok (.aload_n 3, 1) := by decide +kernel
theorem dX3_init_49 : decode cX3_init 49 = .ok (.arraylength, 1) := by decide +kernel
theorem dX3_init_50 : decode cX3_init 50 = .ok (.newarray .boolean, 2) := by decide +kernel
theorem dX3_init_52 : decode cX3_init 52 = .ok (.putfield 39, 3) := by decide +kernel
theorem dX3_init_55 : decode cX3_init 55 = .ok (.return_, 1) := by decide +kernel
theorem dX3_told_0 : decode cX3_told 0 = .ok (.iconst 1, 1) := by decide +kernel
theorem dX3_told_1 : decode cX3_told 1 = .ok (.ireturn, 1) := by decide +kernel
theorem dX3_isOf_0 : decode cX3_isOf 0 = .ok (.iload_n 1, 1) := by decide +kernel
theorem dX3_isOf_1 : decode cX3_isOf 1 = .ok (.iconst 1, 1) := by decide +kernel
theorem dX3_isOf_2 : decode cX3_isOf 2 = .ok (.if_icmp .eq 11, 3) := by decide +kernel
theorem dX3_isOf_5 : decode cX3_isOf 5 = .ok (.aload_n 0, 1) := by decide +kernel
theorem dX3_isOf_6 : decode cX3_isOf 6 = .ok (.iload_n 1, 1) := by decide +kernel
theorem dX3_isOf_7 : decode cX3_isOf 7 = .ok (.invokespecial 43, 3) := by decide +kernel
theorem dX3_isOf_10 : decode cX3_isOf 10 = .ok (.ifCond .eq 7, 3) := by decide +kernel
theorem dX3_isOf_13 : decode cX3_isOf 13 = .ok (.iconst 1, 1) := by decide +kernel
theorem dX3_isOf_14 : decode cX3_isOf 14 = .ok (.goto 4, 3) := by decide +kernel
theorem dX3_isOf_17 : decode cX3_isOf 17 = .ok (.iconst 0, 1) := by decide +kernel
theorem dX3_isOf_18 : decode cX3_isOf 18 = .ok (.ireturn, 1) := by decide +kernel
theorem dX3_weigh_0 : decode cX3_weigh 0 = .ok (.aload_n 1, 1) := by decide +kernel
theorem dX3_weigh_1 : decode cX3_weigh 1 = .ok (.bipush 11, 2) := by decide +kernel
theorem dX3_weigh_3 : decode cX3_weigh 3 = .ok (.invokevirtual 47, 3) := by decide +kernel
theorem dX3_weigh_6 : decode cX3_weigh 6 = .ok (.iconst 0, 1) := by decide +kernel
theorem dX3_weigh_7 : decode cX3_weigh 7 = .ok (.istore_n 2, 1) := by decide +kernel
theorem dX3_weigh_8 : decode cX3_weigh 8 = .ok (.aload_n 0, 1) := by decide +kernel
theorem dX3_weigh_9 : decode cX3_weigh 9 = .ok (.getfield 36, 3) := by decide +kernel
theorem dX3_weigh_12 : decode cX3_weigh 12 = .ok (.astore_n 3, 1) := by decide +kernel
theorem dX3_weigh_13 : decode cX3_weigh 13 = .ok (.aload_n 3, 1) := by decide +kernel
theorem dX3_weigh_14 : decode cX3_weigh 14 = .ok (.arraylength, 1) := by decide +kernel
theorem dX3_weigh_15 : decode cX3_weigh 15 = .ok (.istore 4, 2) := by decide +kernel
theorem dX3_weigh_17 : decode cX3_weigh 17 = .ok (.iconst 0, 1) := by decide +kernel
theorem dX3_weigh_18 : decode cX3_weigh 18 = .ok (.istore 5, 2) := by decide +kernel
theorem dX3_weigh_20 : decode cX3_weigh 20 = .ok (.iload 5, 2) := by decide +kernel
theorem dX3_weigh_22 : decode cX3_weigh 22 = .ok (.iload 4, 2) := by decide +kernel
theorem dX3_weigh_24 : decode cX3_weigh 24 = .ok (.if_icmp .ge 20, 3) := by decide +kernel
theorem dX3_weigh_27 : decode cX3_weigh 27 = .ok (.aload_n 3, 1) := by decide +kernel
theorem dX3_weigh_28 : decode cX3_weigh 28 = .ok (.iload 5, 2) := by decide +kernel
theorem dX3_weigh_30 : decode cX3_weigh 30 = .ok (.iaload, 1) := by decide +kernel
theorem dX3_weigh_31 : decode cX3_weigh 31 = .ok (.istore 6, 2) := by decide +kernel
theorem dX3_weigh_33 : decode cX3_weigh 33 = .ok (.iload_n 2, 1) := by decide +kernel
theorem dX3_weigh_34 : decode cX3_weigh 34 = .ok (.iload 6, 2) := by decide +kernel
theorem dX3_weigh_36 : decode cX3_weigh 36 = .ok (.iadd, 1) := by decide +kernel
theorem dX3_weigh_37 : decode cX3_weigh 37 = .ok (.istore_n 2, 1) := by decide +kernel
theorem dX3_weigh_38 : decode cX3_weigh 38 = .ok (.iinc 5 1, 3) := by decide +kernel
theorem dX3_weigh_41 : decode cX3_weigh 41 = .ok (.goto (-21), 3) := by decide +kernel
theorem dX3_weigh_44 : decode cX3_weigh 44 = .ok (.iload_n 2, 1) := by decide +kernel
theorem dX3_weigh_45 : decode cX3_weigh 45 = .ok (.aload_n 0, 1) := by decide +kernel
theorem dX3_weigh_46 : decode cX3_weigh 46 = .ok (.aload_n 1, 1) := by decide +kernel
theorem dX3_weigh_47 : decode cX3_weigh 47 = .ok (.invokespecial 53, 3) := by decide +kernel
theorem dX3_weigh_50 : decode cX3_weigh 50 = .ok (.iadd, 1) := by decide +kernel
theorem dX3_weigh_51 : decode cX3_weigh 51 = .ok (.ireturn, 1) := by decide +kernel
theorem dX3_thickness_0 : decode cX3_thickness 0 = .ok (.iload_n 1, 1) := by decide +kernel
theorem dX3_thickness_1 : decode cX3_thickness 1 = .ok (.aload_n 0, 1) := by decide +kernel
theorem dX3_thickness_2 : decode cX3_thickness 2 = .ok (.getfield 36, 3) := by decide +kernel
theorem dX3_thickness_5 : decode cX3_thickness 5 = .ok (.arraylength, 1) := by decide +kernel
theorem dX3_thickness_6 : decode cX3_thickness 6 = .ok (.invokestatic 57, 3) := by decide +kernel
theorem dX3_thickness_9 : decode cX3_thickness 9 = .ok (.ifCond .eq 12, 3) := by decide +kernel
theorem dX3_thickness_12 : decode cX3_thickness 12 = .ok (.aload_n 0, 1) := by decide +kernel
theorem dX3_thickness_13 : decode cX3_thickness 13 = .ok (.getfield 36, 3) := by decide +kernel
theorem dX3_thickness_16 : decode cX3_thickness 16 = .ok (.iload_n 1, 1) := by decide +kernel
theorem dX3_thickness_17 : decode cX3_thickness 17 = .ok (.iaload, 1) := by decide +kernel
theorem dX3_thickness_18 : decode cX3_thickness 18 = .ok (.goto 4, 3) := by decide +kernel
theorem dX3_thickness_21 : decode cX3_thickness 21 = .ok (.iconst 0, 1) := by decide +kernel
theorem dX3_thickness_22 : decode cX3_thickness 22 = .ok (.ireturn, 1) := by decide +kernel
theorem dX3_drag_0 : decode cX3_drag 0 = .ok (.aload_n 0, 1) := by decide +kernel
theorem dX3_drag_1 : decode cX3_drag 1 = .ok (.iload_n 1, 1) := by decide +kernel
theorem dX3_drag_2 : decode cX3_drag 2 = .ok (.invokevirtual 61, 3) := by decide +kernel
theorem dX3_drag_5 : decode cX3_drag 5 = .ok (.istore_n 2, 1) := by decide +kernel
theorem dX3_drag_6 : decode cX3_drag 6 = .ok (.iload_n 2, 1) := by decide +kernel
theorem dX3_drag_7 : decode cX3_drag 7 = .ok (.ifCond .le 15, 3) := by decide +kernel
theorem dX3_drag_10 : decode cX3_drag 10 = .ok (.sipush 5000, 3) := by decide +kernel
theorem dX3_drag_13 : decode cX3_drag 13 = .ok (.iload_n 2, 1) := by decide +kernel
theorem dX3_drag_14 : decode cX3_drag 14 = .ok (.iload_n 2, 1) := by decide +kernel
theorem dX3_drag_15 : decode cX3_drag 15 = .ok (.imul, 1) := by decide +kernel
theorem dX3_drag_16 : decode cX3_drag 16 = .ok (.iload_n 2, 1) := by decide +kernel
theorem dX3_drag_17 : decode cX3_drag 17 = .ok (.imul, 1) := by decide +kernel
theorem dX3_drag_18 : decode cX3_drag 18 = .ok (.idiv, 1) := by decide +kernel
theorem dX3_drag_19 : decode cX3_drag 19 = .ok (.goto 4, 3) := by decide +kernel
theorem dX3_drag_22 : decode cX3_drag 22 = .ok (.iconst 0, 1) := by decide +kernel
theorem dX3_drag_23 : decode cX3_drag 23 = .ok (.ireturn, 1) := by decide +kernel
theorem dX3_hasGate_0 : decode cX3_hasGate 0 = .ok (.iconst 0, 1) := by decide +kernel
theorem dX3_hasGate_1 : decode cX3_hasGate 1 = .ok (.istore_n 2, 1) := by decide +kernel
theorem dX3_hasGate_2 : decode cX3_hasGate 2 = .ok (.iload_n 2, 1) := by decide +kernel
theorem dX3_hasGate_3 : decode cX3_hasGate 3 = .ok (.aload_n 0, 1) := by decide +kernel
theorem dX3_hasGate_4 : decode cX3_hasGate 4 = .ok (.getfield 15, 3) := by decide +kernel
theorem dX3_hasGate_7 : decode cX3_hasGate 7 = .ok (.if_icmp .ge 21, 3) := by decide +kernel
theorem dX3_hasGate_10 : decode cX3_hasGate 10 = .ok (.aload_n 0, 1) := by decide +kernel
theorem dX3_hasGate_11 : decode cX3_hasGate 11 = .ok (.getfield 9, 3) := by decide +kernel
theorem dX3_hasGate_14 : decode cX3_hasGate 14 = .ok (.iload_n 2, 1) := by decide +kernel
theorem dX3_hasGate_15 : decode cX3_hasGate 15 = .ok (.iaload, 1) := by decide +kernel
theorem dX3_hasGate_16 : decode cX3_hasGate 16 = .ok (.iload_n 1, 1) := by decide +kernel
theorem dX3_hasGate_17 : decode cX3_hasGate 17 = .ok (.if_icmp .ne 5, 3) := by decide +kernel
theorem dX3_hasGate_20 : decode cX3_hasGate 20 = .ok (.iconst 1, 1) := by decide +kernel
theorem dX3_hasGate_21 : decode cX3_hasGate 21 = .ok (.ireturn, 1) := by decide +kernel
theorem dX3_hasGate_22 : decode cX3_hasGate 22 = .ok (.iinc 2 1, 3) := by decide +kernel
theorem dX3_hasGate_25 : decode cX3_hasGate 25 = .ok (.goto (-23), 3) := by decide +kernel
theorem dX3_hasGate_28 : decode cX3_hasGate 28 = .ok (.iconst 0, 1) := by decide +kernel
theorem dX3_hasGate_29 : decode cX3_hasGate 29 = .ok (.ireturn, 1) := by decide +kernel
theorem dX3_addGate_0 : decode cX3_addGate 0 = .ok (.aload_n 0, 1) := by decide +kernel
theorem dX3_addGate_1 : decode cX3_addGate 1 = .ok (.getfield 15, 3) := by decide +kernel
theorem dX3_addGate_4 : decode cX3_addGate 4 = .ok (.iconst 4, 1) := by decide +kernel
theorem dX3_addGate_5 : decode cX3_addGate 5 = .ok (.if_icmp .lt 6, 3) := by decide +kernel
theorem dX3_addGate_8 : decode cX3_addGate 8 = .ok (.ldc 65, 2) := by decide +kernel
theorem dX3_addGate_10 : decode cX3_addGate 10 = .ok (.ireturn, 1) := by decide +kernel
theorem dX3_addGate_11 : decode cX3_addGate 11 = .ok (.aload_n 0, 1) := by decide +kernel
theorem dX3_addGate_12 : decode cX3_addGate 12 = .ok (.getfield 9, 3) := by decide +kernel
theorem dX3_addGate_15 : decode cX3_addGate 15 = .ok (.aload_n 0, 1) := by decide +kernel
theorem dX3_addGate_16 : decode cX3_addGate 16 = .ok (.getfield 15, 3) := by decide +kernel
theorem dX3_addGate_19 : decode cX3_addGate 19 = .ok (.iload_n 1, 1) := by decide +kernel
theorem dX3_addGate_20 : decode cX3_addGate 20 = .ok (.iastore, 1) := by decide +kernel
theorem dX3_addGate_21 : decode cX3_addGate 21 = .ok (.aload_n 0, 1) := by decide +kernel
theorem dX3_addGate_22 : decode cX3_addGate 22 = .ok (.dup, 1) := by decide +kernel
theorem dX3_addGate_23 : decode cX3_addGate 23 = .ok (.getfield 15, 3) := by decide +kernel
theorem dX3_addGate_26 : decode cX3_addGate 26 = .ok (.iconst 1, 1) := by decide +kernel
theorem dX3_addGate_27 : decode cX3_addGate 27 = .ok (.iadd, 1) := by decide +kernel
theorem dX3_addGate_28 : decode cX3_addGate 28 = .ok (.putfield 15, 3) := by decide +kernel
theorem dX3_addGate_31 : decode cX3_addGate 31 = .ok (.aload_n 0, 1) := by decide +kernel
theorem dX3_addGate_32 : decode cX3_addGate 32 = .ok (.getfield 15, 3) := by decide +kernel
theorem dX3_addGate_35 : decode cX3_addGate 35 = .ok (.iconst 1, 1) := by decide +kernel
theorem dX3_addGate_36 : decode cX3_addGate 36 = .ok (.isub, 1) := by decide +kernel
theorem dX3_addGate_37 : decode cX3_addGate 37 = .ok (.ireturn, 1) := by decide +kernel
theorem dX3_hasVent_0 : decode cX3_hasVent 0 = .ok (.iload_n 1, 1) := by decide +kernel
theorem dX3_hasVent_1 : decode cX3_hasVent 1 = .ok (.aload_n 0, 1) := by decide +kernel
theorem dX3_hasVent_2 : decode cX3_hasVent 2 = .ok (.getfield 39, 3) := by decide +kernel
theorem dX3_hasVent_5 : decode cX3_hasVent 5 = .ok (.arraylength, 1) := by decide +kernel
theorem dX3_hasVent_6 : decode cX3_hasVent 6 = .ok (.invokestatic 57, 3) := by decide +kernel
theorem dX3_hasVent_9 : decode cX3_hasVent 9 = .ok (.ifCond .eq 16, 3) := by decide +kernel
theorem dX3_hasVent_12 : decode cX3_hasVent 12 = .ok (.aload_n 0, 1) := by decide +kernel
theorem dX3_hasVent_13 : decode cX3_hasVent 13 = .ok (.getfield 39, 3) := by decide +kernel
theorem dX3_hasVent_16 : decode cX3_hasVent 16 = .ok (.iload_n 1, 1) := by decide +kernel
theorem dX3_hasVent_17 : decode cX3_hasVent 17 = .ok (.baload, 1) := by decide +kernel
theorem dX3_hasVent_18 : decode cX3_hasVent 18 = .ok (.ifCond .eq 7, 3) := by decide +kernel
theorem dX3_hasVent_21 : decode cX3_hasVent 21 = .ok (.iconst 1, 1) := by decide +kernel
theorem dX3_hasVent_22 : decode cX3_hasVent 22 = .ok (.goto 4, 3) := by decide +kernel
theorem dX3_hasVent_25 : decode cX3_hasVent 25 = .ok (.iconst 0, 1) := by decide +kernel
theorem dX3_hasVent_26 : decode cX3_hasVent 26 = .ok (.ireturn, 1) := by decide +kernel
theorem dX3_turnVent_0 : decode cX3_turnVent 0 = .ok (.iload_n 1, 1) := by decide +kernel
theorem dX3_turnVent_1 : decode cX3_turnVent 1 = .ok (.aload_n 0, 1) := by decide +kernel
theorem dX3_turnVent_2 : decode cX3_turnVent 2 = .ok (.getfield 39, 3) := by decide +kernel
theorem dX3_turnVent_5 : decode cX3_turnVent 5 = .ok (.arraylength, 1) := by decide +kernel
theorem dX3_turnVent_6 : decode cX3_turnVent 6 = .ok (.invokestatic 57, 3) := by decide +kernel
theorem dX3_turnVent_9 : decode cX3_turnVent 9 = .ok (.ifCond .ne 5, 3) := by decide +kernel
theorem dX3_turnVent_12 : decode cX3_turnVent 12 = .ok (.iconst 0, 1) := by decide +kernel
theorem dX3_turnVent_13 : decode cX3_turnVent 13 = .ok (.ireturn, 1) := by decide +kernel
theorem dX3_turnVent_14 : decode cX3_turnVent 14 = .ok (.aload_n 0, 1) := by decide +kernel
theorem dX3_turnVent_15 : decode cX3_turnVent 15 = .ok (.getfield 39, 3) := by decide +kernel
theorem dX3_turnVent_18 : decode cX3_turnVent 18 = .ok (.iload_n 1, 1) := by decide +kernel
theorem dX3_turnVent_19 : decode cX3_turnVent 19 = .ok (.aload_n 0, 1) := by decide +kernel
theorem dX3_turnVent_20 : decode cX3_turnVent 20 = .ok (.getfield 39, 3) := by decide +kernel
theorem dX3_turnVent_23 : decode cX3_turnVent 23 = .ok (.iload_n 1, 1) := by decide +kernel
theorem dX3_turnVent_24 : decode cX3_turnVent 24 = .ok (.baload, 1) := by decide +kernel
theorem dX3_turnVent_25 : decode cX3_turnVent 25 = .ok (.ifCond .ne 7, 3) := by decide +kernel
theorem dX3_turnVent_28 : decode cX3_turnVent 28 = .ok (.iconst 1, 1) := by decide +kernel
theorem dX3_turnVent_29 : decode cX3_turnVent 29 = .ok (.goto 4, 3) := by decide +kernel
theorem dX3_turnVent_32 : decode cX3_turnVent 32 = .ok (.iconst 0, 1) := by decide +kernel
theorem dX3_turnVent_33 : decode cX3_turnVent 33 = .ok (.bastore, 1) := by decide +kernel
theorem dX3_turnVent_34 : decode cX3_turnVent 34 = .ok (.aload_n 0, 1) := by decide +kernel
theorem dX3_turnVent_35 : decode cX3_turnVent 35 = .ok (.getfield 39, 3) := by decide +kernel
theorem dX3_turnVent_38 : decode cX3_turnVent 38 = .ok (.iload_n 1, 1) := by decide +kernel
theorem dX3_turnVent_39 : decode cX3_turnVent 39 = .ok (.baload, 1) := by decide +kernel
theorem dX3_turnVent_40 : decode cX3_turnVent 40 = .ok (.ireturn, 1) := by decide +kernel
theorem dX4_init_0 : decode cX4_init 0 = .ok (.aload_n 0, 1) := by decide +kernel
theorem dX4_init_1 : decode cX4_init 1 = .ok (.iload_n 1, 1) := by decide +kernel
theorem dX4_init_2 : decode cX4_init 2 = .ok (.iload_n 2, 1) := by decide +kernel
theorem dX4_init_3 : decode cX4_init 3 = .ok (.aload_n 3, 1) := by decide +kernel
theorem dX4_init_4 : decode cX4_init 4 = .ok (.invokespecial 1, 3) := by decide +kernel
theorem dX4_init_7 : decode cX4_init 7 = .ok (.return_, 1) := by decide +kernel
theorem dX4_told_0 : decode cX4_told 0 = .ok (.iconst 3, 1) := by decide +kernel
theorem dX4_told_1 : decode cX4_told 1 = .ok (.ireturn, 1) := by decide +kernel
theorem dX4_isOf_0 : decode cX4_isOf 0 = .ok (.iload_n 1, 1) := by decide +kernel
theorem dX4_isOf_1 : decode cX4_isOf 1 = .ok (.iconst 3, 1) := by decide +kernel
theorem dX4_isOf_2 : decode cX4_isOf 2 = .ok (.if_icmp .eq 11, 3) := by decide +kernel
theorem dX4_isOf_5 : decode cX4_isOf 5 = .ok (.aload_n 0, 1) := by decide +kernel
theorem dX4_isOf_6 : decode cX4_isOf 6 = .ok (.iload_n 1, 1) := by decide +kernel
theorem dX4_isOf_7 : decode cX4_isOf 7 = .ok (.invokespecial 7, 3) := by decide +kernel
theorem dX4_isOf_10 : decode cX4_isOf 10 = .ok (.ifCond .eq 7, 3) := by decide +kernel
theorem dX4_isOf_13 : decode cX4_isOf 13 = .ok (.iconst 1, 1) := by decide +kernel
theorem dX4_isOf_14 : decode cX4_isOf 14 = .ok (.goto 4, 3) := by decide +kernel
theorem dX4_isOf_17 : decode cX4_isOf 17 = .ok (.iconst 0, 1) := by decide +kernel
theorem dX4_isOf_18 : decode cX4_isOf 18 = .ok (.ireturn, 1) := by decide +kernel
theorem dX4_mark_0 : decode cX4_mark 0 = .ok (.aload_n 1, 1) := by decide +kernel
theorem dX4_mark_1 : decode cX4_mark 1 = .ok (.bipush 21, 2) := by decide +kernel
theorem dX4_mark_3 : decode cX4_mark 3 = .ok (.invokevirtual 11, 3) := by decide +kernel
theorem dX4_mark_6 : decode cX4_mark 6 = .ok (.iconst 2, 1) := by decide +kernel
theorem dX4_mark_7 : decode cX4_mark 7 = .ok (.aload_n 0, 1) := by decide +kernel
theorem dX4_mark_8 : decode cX4_mark 8 = .ok (.aload_n 1, 1) := by decide +kernel
theorem dX4_mark_9 : decode cX4_mark 9 = .ok (.invokespecial 17, 3) := by decide +kernel
theorem dX4_mark_12 : decode cX4_mark 12 = .ok (.imul, 1) := by decide +kernel
theorem dX4_mark_13 : decode cX4_mark 13 = .ok (.ireturn, 1) := by decide +kernel
theorem dX5_init_0 : decode cX5_init 0 = .ok (.aload_n 0, 1) := by decide +kernel
theorem dX5_init_1 : decode cX5_init 1 = .ok (.invokespecial 3, 3) := by decide +kernel
theorem dX5_init_4 : decode cX5_init 4 = .ok (.aload_n 0, 1) := by decide +kernel
theorem dX5_init_5 : decode cX5_init 5 = .ok (.bipush 6, 2) := by decide +kernel
theorem dX5_init_7 : decode cX5_init 7 = .ok (.newarray .int, 2) := by decide +kernel
theorem dX5_init_9 : decode cX5_init 9 = .ok (.putfield 9, 3) := by decide +kernel
theorem dX5_init_12 : decode cX5_init 12 = .ok (.aload_n 0, 1) := by decide +kernel
theorem dX5_init_13 : decode cX5_init 13 = .ok (.bipush 12, 2) := by decide +kernel
theorem dX5_init_15 : decode cX5_init 15 = .ok (.newarray .int, 2) := by decide +kernel
theorem dX5_init_17 : decode cX5_init 17 = .ok (.putfield 15, 3) := by decide +kernel
theorem dX5_init_20 : decode cX5_init 20 = .ok (.aload_n 0, 1) := by decide +kernel
theorem dX5_init_21 : decode cX5_init 21 = .ok (.bipush 12, 2) := by decide +kernel
theorem dX5_init_23 : decode cX5_init 23 = .ok (.newarray .int, 2) := by decide +kernel
theorem dX5_init_25 : decode cX5_init 25 = .ok (.putfield 18, 3) := by decide +kernel
theorem dX5_init_28 : decode cX5_init 28 = .ok (.aload_n 0, 1) := by decide +kernel
theorem dX5_init_29 : decode cX5_init 29 = .ok (.bipush 12, 2) := by decide +kernel
theorem dX5_init_31 : decode cX5_init 31 = .ok (.newarray .int, 2) := by decide +kernel
theorem dX5_init_33 : decode cX5_init 33 = .ok (.putfield 21, 3) := by decide +kernel
theorem dX5_init_36 : decode cX5_init 36 = .ok (.aload_n 0, 1) := by decide +kernel
theorem dX5_init_37 : decode cX5_init 37 = .ok (.bipush 6, 2) := by decide +kernel
theorem dX5_init_39 : decode cX5_init 39 = .ok (.bipush 12, 2) := by decide +kernel
theorem dX5_init_41 : decode cX5_init 41 = .ok (.multianewarray 24 2, 4) := by decide +kernel
theorem dX5_init_45 : decode cX5_init 45 = .ok (.putfield 26, 3) := by decide +kernel
theorem dX5_init_48 : decode cX5_init 48 = .ok (.aload_n 0, 1) := by decide +kernel
theorem dX5_init_49 : decode cX5_init 49 = .ok (.bipush 6, 2) := by decide +kernel
theorem dX5_init_51 : decode cX5_init 51 = .ok (.newarray .int, 2) := by decide +kernel
theorem dX5_init_53 : decode cX5_init 53 = .ok (.putfield 29, 3) := by decide +kernel
theorem dX5_init_56 : decode cX5_init 56 = .ok (.aload_n 0, 1) := by decide +kernel
theorem dX5_init_57 : decode cX5_init 57 = .ok (.bipush 6, 2) := by decide +kernel
theorem dX5_init_59 : decode cX5_init 59 = .ok (.newarray .int, 2) := by decide +kernel
theorem dX5_init_61 : decode cX5_init 61 = .ok (.putfield 32, 3) := by decide +kernel
theorem dX5_init_64 : decode cX5_init 64 = .ok (.aload_n 0, 1) := by decide +kernel
theorem dX5_init_65 : decode cX5_init 65 = .ok (.iconst 0, 1) := by decide +kernel
theorem dX5_init_66 : decode cX5_init 66 = .ok (.putfield 35, 3) := by decide +kernel
theorem dX5_init_69 : decode cX5_init 69 = .ok (.aload_n 0, 1) := by decide +kernel
theorem dX5_init_70 : decode cX5_init 70 = .ok (.iconst 0, 1) := by decide +kernel
theorem dX5_init_71 : decode cX5_init 71 = .ok (.putfield 39, 3) := by decide +kernel
theorem dX5_init_74 : decode cX5_init 74 = .ok (.return_, 1) := by decide +kernel
theorem dX5_addPress_0 : decode cX5_addPress 0 = .ok (.aload_n 0, 1) := by decide +kernel
theorem dX5_addPress_1 : decode cX5_addPress 1 = .ok (.getfield 35, 3) := by decide +kernel
theorem dX5_addPress_4 : decode cX5_addPress 4 = .ok (.bipush 6, 2) := by decide +kernel
theorem dX5_addPress_6 : decode cX5_addPress 6 = .ok (.if_icmp .lt 6, 3) := by decide +kernel
theorem dX5_addPress_9 : decode cX5_addPress 9 = .ok (.ldc 42, 2) := by decide +kernel
theorem dX5_addPress_11 : decode cX5_addPress 11 = .ok (.ireturn, 1) := by decide +kernel
theorem dX5_addPress_12 : decode cX5_addPress 12 = .ok (.aload_n 0, 1) := by decide +kernel
theorem dX5_addPress_13 : decode cX5_addPress 13 = .ok (.invokevirtual 43, 3) := by decide +kernel
theorem dX5_addPress_16 : decode cX5_addPress 16 = .ok (.aload_n 0, 1) := by decide +kernel
theorem dX5_addPress_17 : decode cX5_addPress 17 = .ok (.getfield 9, 3) := by decide +kernel
theorem dX5_addPress_20 : decode cX5_addPress 20 = .ok (.aload_n 0, 1) := by decide +kernel
theorem dX5_addPress_21 : decode cX5_addPress 21 = .ok (.getfield 35, 3) := by decide +kernel
theorem dX5_addPress_24 : decode cX5_addPress 24 = .ok (.iload_n 1, 1) := by decide +kernel
theorem dX5_addPress_25 : decode cX5_addPress 25 = .ok (.iastore, 1) := by decide +kernel
theorem dX5_addPress_26 : decode cX5_addPress 26 = .ok (.aload_n 0, 1) := by decide +kernel
theorem dX5_addPress_27 : decode cX5_addPress 27 = .ok (.dup, 1) := by decide +kernel
theorem dX5_addPress_28 : decode cX5_addPress 28 = .ok (.getfield 35, 3) := by decide +kernel
theorem dX5_addPress_31 : decode cX5_addPress 31 = .ok (.iconst 1, 1) := by decide +kernel
theorem dX5_addPress_32 : decode cX5_addPress 32 = .ok (.iadd, 1) := by decide +kernel
theorem dX5_addPress_33 : decode cX5_addPress 33 = .ok (.putfield 35, 3) := by decide +kernel
theorem dX5_addPress_36 : decode cX5_addPress 36 = .ok (.aload_n 0, 1) := by decide +kernel
theorem dX5_addPress_37 : decode cX5_addPress 37 = .ok (.getfield 35, 3) := by decide +kernel
theorem dX5_addPress_40 : decode cX5_addPress 40 = .ok (.iconst 1, 1) := by decide +kernel
theorem dX5_addPress_41 : decode cX5_addPress 41 = .ok (.isub, 1) := by decide +kernel
theorem dX5_addPress_42 : decode cX5_addPress 42 = .ok (.ireturn, 1) := by decide +kernel
theorem dX5_addJob_0 : decode cX5_addJob 0 = .ok (.aload_n 0, 1) := by decide +kernel
theorem dX5_addJob_1 : decode cX5_addJob 1 = .ok (.getfield 39, 3) := by decide +kernel
theorem dX5_addJob_4 : decode cX5_addJob 4 = .ok (.bipush 12, 2) := by decide +kernel
theorem dX5_addJob_6 : decode cX5_addJob 6 = .ok (.if_icmp .lt 6, 3) := by decide +kernel
theorem dX5_addJob_9 : decode cX5_addJob 9 = .ok (.ldc 42, 2) := by decide +kernel
theorem dX5_addJob_11 : decode cX5_addJob 11 = .ok (.ireturn, 1) := by decide +kernel
theorem dX5_addJob_12 : decode cX5_addJob 12 = .ok (.aload_n 0, 1) := by decide +kernel
theorem dX5_addJob_13 : decode cX5_addJob 13 = .ok (.invokevirtual 43, 3) := by decide +kernel
theorem dX5_addJob_16 : decode cX5_addJob 16 = .ok (.aload_n 0, 1) := by decide +kernel
theorem dX5_addJob_17 : decode cX5_addJob 17 = .ok (.getfield 15, 3) := by decide +kernel
theorem dX5_addJob_20 : decode cX5_addJob 20 = .ok (.aload_n 0, 1) := by decide +kernel
theorem dX5_addJob_21 : decode cX5_addJob 21 = .ok (.getfield 39, 3) := by decide +kernel
theorem dX5_addJob_24 : decode cX5_addJob 24 = .ok (.iload_n 1, 1) := by decide +kernel
theorem dX5_addJob_25 : decode cX5_addJob 25 = .ok (.iastore, 1) := by decide +kernel
theorem dX5_addJob_26 : decode cX5_addJob 26 = .ok (.aload_n 0, 1) := by decide +kernel
theorem dX5_addJob_27 : decode cX5_addJob 27 = .ok (.getfield 18, 3) := by decide +kernel
theorem dX5_addJob_30 : decode cX5_addJob 30 = .ok (.aload_n 0, 1) := by decide +kernel
theorem dX5_addJob_31 : decode cX5_addJob 31 = .ok (.getfield 39, 3) := by decide +kernel
theorem dX5_addJob_34 : decode cX5_addJob 34 = .ok (.iload_n 2, 1) := by decide +kernel
theorem dX5_addJob_35 : decode cX5_addJob 35 = .ok (.iastore, 1) := by decide +kernel
theorem dX5_addJob_36 : decode cX5_addJob 36 = .ok (.aload_n 0, 1) := by decide +kernel
theorem dX5_addJob_37 : decode cX5_addJob 37 = .ok (.getfield 21, 3) := by decide +kernel
theorem dX5_addJob_40 : decode cX5_addJob 40 = .ok (.aload_n 0, 1) := by decide +kernel
theorem dX5_addJob_41 : decode cX5_addJob 41 = .ok (.getfield 39, 3) := by decide +kernel
theorem dX5_addJob_44 : decode cX5_addJob 44 = .ok (.iload_n 3, 1) := by decide +kernel
theorem dX5_addJob_45 : decode cX5_addJob 45 = .ok (.iastore, 1) := by decide +kernel
theorem dX5_addJob_46 : decode cX5_addJob 46 = .ok (.aload_n 0, 1) := by decide +kernel
theorem dX5_addJob_47 : decode cX5_addJob 47 = .ok (.dup, 1) := by decide +kernel
theorem dX5_addJob_48 : decode cX5_addJob 48 = .ok (.getfield 39, 3) := by decide +kernel
theorem dX5_addJob_51 : decode cX5_addJob 51 = .ok (.iconst 1, 1) := by decide +kernel
theorem dX5_addJob_52 : decode cX5_addJob 52 = .ok (.iadd, 1) := by decide +kernel
theorem dX5_addJob_53 : decode cX5_addJob 53 = .ok (.putfield 39, 3) := by decide +kernel
theorem dX5_addJob_56 : decode cX5_addJob 56 = .ok (.aload_n 0, 1) := by decide +kernel
theorem dX5_addJob_57 : decode cX5_addJob 57 = .ok (.getfield 39, 3) := by decide +kernel
theorem dX5_addJob_60 : decode cX5_addJob 60 = .ok (.iconst 1, 1) := by decide +kernel
theorem dX5_addJob_61 : decode cX5_addJob 61 = .ok (.isub, 1) := by decide +kernel
theorem dX5_addJob_62 : decode cX5_addJob 62 = .ok (.ireturn, 1) := by decide +kernel
theorem dX5_makePlan_0 : decode cX5_makePlan 0 = .ok (.aload_n 0, 1) := by decide +kernel
theorem dX5_makePlan_1 : decode cX5_makePlan 1 = .ok (.invokevirtual 43, 3) := by decide +kernel
theorem dX5_makePlan_4 : decode cX5_makePlan 4 = .ok (.iconst 0, 1) := by decide +kernel
theorem dX5_makePlan_5 : decode cX5_makePlan 5 = .ok (.istore_n 1, 1) := by decide +kernel
theorem dX5_makePlan_6 : decode cX5_makePlan 6 = .ok (.iconst 0, 1) := by decide +kernel
theorem dX5_makePlan_7 : decode cX5_makePlan 7 = .ok (.istore_n 2, 1) := by decide +kernel
theorem dX5_makePlan_8 : decode cX5_makePlan 8 = .ok (.iload_n 2, 1) := by decide +kernel
theorem dX5_makePlan_9 : decode cX5_makePlan 9 = .ok (.aload_n 0, 1) := by decide +kernel
theorem dX5_makePlan_10 : decode cX5_makePlan 10 = .ok (.getfield 39, 3) := by decide +kernel
theorem dX5_makePlan_13 : decode cX5_makePlan 13 = .ok (.if_icmp .ge 33, 3) := by decide +kernel
theorem dX5_makePlan_16 : decode cX5_makePlan 16 = .ok (.aload_n 0, 1) := by decide +kernel
theorem dX5_makePlan_17 : decode cX5_makePlan 17 = .ok (.iload_n 2, 1) := by decide +kernel
theorem dX5_makePlan_18 : decode cX5_makePlan 18 = .ok (.invokevirtual 46, 3) := by decide +kernel
theorem dX5_makePlan_21 : decode cX5_makePlan 21 = .ok (.istore_n 3, 1) := by decide +kernel
theorem dX5_makePlan_22 : decode cX5_makePlan 22 = .ok (.iload_n 3, 1) := by decide +kernel
theorem dX5_makePlan_23 : decode cX5_makePlan 23 = .ok (.ldc 50, 2) := by decide +kernel
theorem dX5_makePlan_25 : decode cX5_makePlan 25 = .ok (.if_icmp .ne 9, 3) := by decide +kernel
theorem dX5_makePlan_28 : decode cX5_makePlan 28 = .ok (.iinc 1 1, 3) := by decide +kernel
theorem dX5_makePlan_31 : decode cX5_makePlan 31 = .ok (.goto 9, 3) := by decide +kernel
theorem dX5_makePlan_34 : decode cX5_makePlan 34 = .ok (.aload_n 0, 1) := by decide +kernel
theorem dX5_makePlan_35 : decode cX5_makePlan 35 = .ok (.iload_n 3, 1) := by decide +kernel
theorem dX5_makePlan_36 : decode cX5_makePlan 36 = .ok (.iload_n 2, 1) := by decide +kernel
theorem dX5_makePlan_37 : decode cX5_makePlan 37 = .ok (.invokevirtual 51, 3) := by decide +kernel
theorem dX5_makePlan_40 : decode cX5_makePlan 40 = .ok (.iinc 2 1, 3) := by decide +kernel
theorem dX5_makePlan_43 : decode cX5_makePlan 43 = .ok (.goto (-35), 3) := by decide +kernel
theorem dX5_makePlan_46 : decode cX5_makePlan 46 = .ok (.iload_n 1, 1) := by decide +kernel
theorem dX5_makePlan_47 : decode cX5_makePlan 47 = .ok (.ireturn, 1) := by decide +kernel
theorem dX5_jobOn_0 : decode cX5_jobOn 0 = .ok (.iload_n 2, 1) := by decide +kernel
theorem dX5_jobOn_1 : decode cX5_jobOn 1 = .ok (.aload_n 0, 1) := by decide +kernel
theorem dX5_jobOn_2 : decode cX5_jobOn 2 = .ok (.getfield 29, 3) := by decide +kernel
theorem dX5_jobOn_5 : decode cX5_jobOn 5 = .ok (.iload_n 1, 1) := by decide +kernel
theorem dX5_jobOn_6 : decode cX5_jobOn 6 = .ok (.iaload, 1) := by decide +kernel
theorem dX5_jobOn_7 : decode cX5_jobOn 7 = .ok (.invokestatic 55, 3) := by decide +kernel
theorem dX5_jobOn_10 : decode cX5_jobOn 10 = .ok (.ifCond .eq 14, 3) := by decide +kernel
theorem dX5_jobOn_13 : decode cX5_jobOn 13 = .ok (.aload_n 0, 1) := by decide +kernel
theorem dX5_jobOn_14 : decode cX5_jobOn 14 = .ok (.getfield 26, 3) := by decide +kernel
theorem dX5_jobOn_17 : decode cX5_jobOn 17 = .ok (.iload_n 1, 1) := by decide +kernel
theorem dX5_jobOn_18 : decode cX5_jobOn 18 = .ok (.aaload, 1) := by decide +kernel
theorem dX5_jobOn_19 : decode cX5_jobOn 19 = .ok (.iload_n 2, 1) := by decide +kernel
theorem dX5_jobOn_20 : decode cX5_jobOn 20 = .ok (.iaload, 1) := by decide +kernel
theorem dX5_jobOn_21 : decode cX5_jobOn 21 = .ok (.goto 5, 3) := by decide +kernel
theorem dX5_jobOn_24 : decode cX5_jobOn 24 = .ok (.ldc 50, 2) := by decide +kernel
theorem dX5_jobOn_26 : decode cX5_jobOn 26 = .ok (.ireturn, 1) := by decide +kernel
theorem dX5_pains_0 : decode cX5_pains 0 = .ok (.aload_n 0, 1) := by decide +kernel
theorem dX5_pains_1 : decode cX5_pains 1 = .ok (.getfield 29, 3) := by decide +kernel
theorem dX5_pains_4 : decode cX5_pains 4 = .ok (.iload_n 1, 1) := by decide +kernel
theorem dX5_pains_5 : decode cX5_pains 5 = .ok (.iaload, 1) := by decide +kernel
theorem dX5_pains_6 : decode cX5_pains 6 = .ok (.iconst 1, 1) := by decide +kernel
theorem dX5_pains_7 : decode cX5_pains 7 = .ok (.isub, 1) := by decide +kernel
theorem dX5_pains_8 : decode cX5_pains 8 = .ok (.istore_n 2, 1) := by decide +kernel
theorem dX5_pains_9 : decode cX5_pains 9 = .ok (.iload_n 2, 1) := by decide +kernel
theorem dX5_pains_10 : decode cX5_pains 10 = .ok (.ifCond .ge 7, 3) := by decide +kernel
theorem dX5_pains_13 : decode cX5_pains 13 = .ok (.iconst 0, 1) := by decide +kernel
theorem dX5_pains_14 : decode cX5_pains 14 = .ok (.goto 30, 3) := by decide +kernel
theorem dX5_pains_17 : decode cX5_pains 17 = .ok (.aload_n 0, 1) := by decide +kernel
theorem dX5_pains_18 : decode cX5_pains 18 = .ok (.getfield 18, 3) := by decide +kernel
theorem dX5_pains_21 : decode cX5_pains 21 = .ok (.aload_n 0, 1) := by decide +kernel
theorem dX5_pains_22 : decode cX5_pains 22 = .ok (.getfield 26, 3) := by decide +kernel
theorem dX5_pains_25 : decode cX5_pains 25 = .ok (.iload_n 1, 1) := by decide +kernel
theorem dX5_pains_26 : decode cX5_pains 26 = .ok (.aaload, 1) := by decide +kernel
theorem dX5_pains_27 : decode cX5_pains 27 = .ok (.iload_n 2, 1) := by decide +kernel
theorem dX5_pains_28 : decode cX5_pains 28 = .ok (.iaload, 1) := by decide +kernel
theorem dX5_pains_29 : decode cX5_pains 29 = .ok (.iaload, 1) := by decide +kernel
theorem dX5_pains_30 : decode cX5_pains 30 = .ok (.aload_n 0, 1) := by decide +kernel
theorem dX5_pains_31 : decode cX5_pains 31 = .ok (.getfield 18, 3) := by decide +kernel
theorem dX5_pains_34 : decode cX5_pains 34 = .ok (.aload_n 0, 1) := by decide +kernel
theorem dX5_pains_35 : decode cX5_pains 35 = .ok (.getfield 26, 3) := by decide +kernel
theorem dX5_pains_38 : decode cX5_pains 38 = .ok (.iload_n 1, 1) := by decide +kernel
theorem dX5_pains_39 : decode cX5_pains 39 = .ok (.aaload, 1) := by decide +kernel
theorem dX5_pains_40 : decode cX5_pains 40 = .ok (.iconst 0, 1) := by decide +kernel
theorem dX5_pains_41 : decode cX5_pains 41 = .ok (.iaload, 1) := by decide +kernel
theorem dX5_pains_42 : decode cX5_pains 42 = .ok (.iaload, 1) := by decide +kernel
theorem dX5_pains_43 : decode cX5_pains 43 = .ok (.isub, 1) := by decide +kernel
theorem dX5_pains_44 : decode cX5_pains 44 = .ok (.ireturn, 1) := by decide +kernel
theorem dX5_forgetPlan_0 : decode cX5_forgetPlan 0 = .ok (.iconst 0, 1) := by decide +kernel
theorem dX5_forgetPlan_1 : decode cX5_forgetPlan 1 = .ok (.istore_n 1, 1) := by decide +kernel
theorem dX5_forgetPlan_2 : decode cX5_forgetPlan 2 = .ok (.iload_n 1, 1) := by decide +kernel
theorem dX5_forgetPlan_3 : decode cX5_forgetPlan 3 = .ok (.bipush 6, 2) := by decide +kernel
theorem dX5_forgetPlan_5 : decode cX5_forgetPlan 5 = .ok (.if_icmp .ge 23, 3) := by decide +kernel
theorem dX5_forgetPlan_8 : decode cX5_forgetPlan 8 = .ok (.aload_n 0, 1) := by decide +kernel
theorem dX5_forgetPlan_9 : decode cX5_forgetPlan 9 = .ok (.getfield 29, 3) := by decide +kernel
theorem dX5_forgetPlan_12 : decode cX5_forgetPlan 12 = .ok (.iload_n 1, 1) := by decide +kernel
theorem dX5_forgetPlan_13 : decode cX5_forgetPlan 13 = .ok (.iconst 0, 1) := by decide +kernel
theorem dX5_forgetPlan_14 : decode cX5_forgetPlan 14 = .ok (.iastore, 1) := by decide +kernel
theorem dX5_forgetPlan_15 : decode cX5_forgetPlan 15 = .ok (.aload_n 0, 1) := by decide +kernel
theorem dX5_forgetPlan_16 : decode cX5_forgetPlan 16 = .ok (.getfield 32, 3) := by decide +kernel
theorem dX5_forgetPlan_19 : decode cX5_forgetPlan 19 = .ok (.iload_n 1, 1) := by decide +kernel
theorem dX5_forgetPlan_20 : decode cX5_forgetPlan 20 = .ok (.iconst 0, 1) := by decide +kernel
theorem dX5_forgetPlan_21 : decode cX5_forgetPlan 21 = .ok (.iastore, 1) := by decide +kernel
theorem dX5_forgetPlan_22 : decode cX5_forgetPlan 22 = .ok (.iinc 1 1, 3) := by decide +kernel
theorem dX5_forgetPlan_25 : decode cX5_forgetPlan 25 = .ok (.goto (-23), 3) := by decide +kernel
theorem dX5_forgetPlan_28 : decode cX5_forgetPlan 28 = .ok (.return_, 1) := by decide +kernel
theorem dX5_pressFor_0 : decode cX5_pressFor 0 = .ok (.ldc 50, 2) := by decide +kernel
theorem dX5_pressFor_2 : decode cX5_pressFor 2 = .ok (.istore_n 2, 1) := by decide +kernel
theorem dX5_pressFor_3 : decode cX5_pressFor 3 = .ok (.iconst 0, 1) := by decide +kernel
theorem dX5_pressFor_4 : decode cX5_pressFor 4 = .ok (.istore_n 3, 1) := by decide +kernel
theorem dX5_pressFor_5 : decode cX5_pressFor 5 = .ok (.iload_n 3, 1) := by decide +kernel
theorem dX5_pressFor_6 : decode cX5_pressFor 6 = .ok (.aload_n 0, 1) := by decide +kernel
theorem dX5_pressFor_7 : decode cX5_pressFor 7 = .ok (.getfield 35, 3) := by decide +kernel
theorem dX5_pressFor_10 : decode cX5_pressFor 10 = .ok (.if_icmp .ge 50, 3) := by decide +kernel
theorem dX5_pressFor_13 : decode cX5_pressFor 13 = .ok (.aload_n 0, 1) := by decide +kernel
theorem dX5_pressFor_14 : decode cX5_pressFor 14 = .ok (.getfield 9, 3) := by decide +kernel
theorem dX5_pressFor_17 : decode cX5_pressFor 17 = .ok (.iload_n 3, 1) := by decide +kernel
theorem dX5_pressFor_18 : decode cX5_pressFor 18 = .ok (.iaload, 1) := by decide +kernel
theorem dX5_pressFor_19 : decode cX5_pressFor 19 = .ok (.aload_n 0, 1) := by decide +kernel
theorem dX5_pressFor_20 : decode cX5_pressFor 20 = .ok (.getfield 15, 3) := by decide +kernel
theorem dX5_pressFor_23 : decode cX5_pressFor 23 = .ok (.iload_n 1, 1) := by decide +kernel
theorem dX5_pressFor_24 : decode cX5_pressFor 24 = .ok (.iaload, 1) := by decide +kernel
theorem dX5_pressFor_25 : decode cX5_pressFor 25 = .ok (.if_icmp .ge 6, 3) := by decide +kernel
theorem dX5_pressFor_28 : decode cX5_pressFor 28 = .ok (.goto 26, 3) := by decide +kernel
theorem dX5_pressFor_31 : decode cX5_pressFor 31 = .ok (.iload_n 2, 1) := by decide +kernel
theorem dX5_pressFor_32 : decode cX5_pressFor 32 = .ok (.ldc 50, 2) := by decide +kernel
theorem dX5_pressFor_34 : decode cX5_pressFor 34 = .ok (.if_icmp .eq 18, 3) := by decide +kernel
theorem dX5_pressFor_37 : decode cX5_pressFor 37 = .ok (.aload_n 0, 1) := by decide +kernel
theorem dX5_pressFor_38 : decode cX5_pressFor 38 = .ok (.getfield 32, 3) := by decide +kernel
theorem dX5_pressFor_41 : decode cX5_pressFor 41 = .ok (.iload_n 3, 1) := by decide +kernel
theorem dX5_pressFor_42 : decode cX5_pressFor 42 = .ok (.iaload, 1) := by decide +kernel
theorem dX5_pressFor_43 : decode cX5_pressFor 43 = .ok (.aload_n 0, 1) := by decide +kernel
theorem dX5_pressFor_44 : decode cX5_pressFor 44 = .ok (.getfield 32, 3) := by decide +kernel
theorem dX5_pressFor_47 : decode cX5_pressFor 47 = .ok (.iload_n 2, 1) := by decide +kernel
theorem dX5_pressFor_48 : decode cX5_pressFor 48 = .ok (.iaload, 1) := by decide +kernel
theorem dX5_pressFor_49 : decode cX5_pressFor 49 = .ok (.if_icmp .ge 5, 3) := by decide +kernel
theorem dX5_pressFor_52 : decode cX5_pressFor 52 = .ok (.iload_n 3, 1) := by decide +kernel
theorem dX5_pressFor_53 : decode cX5_pressFor 53 = .ok (.istore_n 2, 1) := by decide +kernel
theorem dX5_pressFor_54 : decode cX5_pressFor 54 = .ok (.iinc 3 1, 3) := by decide +kernel
theorem dX5_pressFor_57 : decode cX5_pressFor 57 = .ok (.goto (-52), 3) := by decide +kernel
theorem dX5_pressFor_60 : decode cX5_pressFor 60 = .ok (.iload_n 2, 1) := by decide +kernel
theorem dX5_pressFor_61 : decode cX5_pressFor 61 = .ok (.ireturn, 1) := by decide +kernel
theorem dX5_putOn_0 : decode cX5_putOn 0 = .ok (.aload_n 0, 1) := by decide +kernel
theorem dX5_putOn_1 : decode cX5_putOn 1 = .ok (.getfield 26, 3) := by decide +kernel
theorem dX5_putOn_4 : decode cX5_putOn 4 = .ok (.iload_n 1, 1) := by decide +kernel
theorem dX5_putOn_5 : decode cX5_putOn 5 = .ok (.aaload, 1) := by decide +kernel
theorem dX5_putOn_6 : decode cX5_putOn 6 = .ok (.astore_n 3, 1) := by decide +kernel
theorem dX5_putOn_7 : decode cX5_putOn 7 = .ok (.aload_n 0, 1) := by decide +kernel
theorem dX5_putOn_8 : decode cX5_putOn 8 = .ok (.getfield 29, 3) := by decide +kernel
theorem dX5_putOn_11 : decode cX5_putOn 11 = .ok (.iload_n 1, 1) := by decide +kernel
theorem dX5_putOn_12 : decode cX5_putOn 12 = .ok (.iaload, 1) := by decide +kernel
theorem dX5_putOn_13 : decode cX5_putOn 13 = .ok (.bipush 11, 2) := by decide +kernel
theorem dX5_putOn_15 : decode cX5_putOn 15 = .ok (.invokestatic 59, 3) := by decide +kernel
theorem dX5_putOn_18 : decode cX5_putOn 18 = .ok (.istore 4, 2) := by decide +kernel
theorem dX5_putOn_20 : decode cX5_putOn 20 = .ok (.iload 4, 2) := by decide +kernel
theorem dX5_putOn_22 : decode cX5_putOn 22 = .ok (.ifCond .le 39, 3) := by decide +kernel
theorem dX5_putOn_25 : decode cX5_putOn 25 = .ok (.aload_n 0, 1) := by decide +kernel
theorem dX5_putOn_26 : decode cX5_putOn 26 = .ok (.getfield 18, 3) := by decide +kernel
theorem dX5_putOn_29 : decode cX5_putOn 29 = .ok (.aload_n 3, 1) := by decide +kernel
theorem dX5_putOn_30 : decode cX5_putOn 30 = .ok (.iload 4, 2) := by decide +kernel
theorem dX5_putOn_32 : decode cX5_putOn 32 = .ok (.iconst 1, 1) := by decide +kernel
theorem dX5_putOn_33 : decode cX5_putOn 33 = .ok (.isub, 1) := by decide +kernel
theorem dX5_putOn_34 : decode cX5_putOn 34 = .ok (.iaload, 1) := by decide +kernel
theorem dX5_putOn_35 : decode cX5_putOn 35 = .ok (.iaload, 1) := by decide +kernel
theorem dX5_putOn_36 : decode cX5_putOn 36 = .ok (.aload_n 0, 1) := by decide +kernel
theorem dX5_putOn_37 : decode cX5_putOn 37 = .ok (.getfield 18, 3) := by decide +kernel
theorem dX5_putOn_40 : decode cX5_putOn 40 = .ok (.iload_n 2, 1) := by decide +kernel
theorem dX5_putOn_41 : decode cX5_putOn 41 = .ok (.iaload, 1) := by decide +kernel
theorem dX5_putOn_42 : decode cX5_putOn 42 = .ok (.if_icmp .le 19, 3) := by decide +kernel
theorem dX5_putOn_45 : decode cX5_putOn 45 = .ok (.aload_n 3, 1) := by decide +kernel
theorem dX5_putOn_46 : decode cX5_putOn 46 = .ok (.iload 4, 2) := by decide +kernel
theorem dX5_putOn_48 : decode cX5_putOn 48 = .ok (.aload_n 3, 1) := by decide +kernel
theorem dX5_putOn_49 : decode cX5_putOn 49 = .ok (.iload 4, 2) := by decide +kernel
theorem dX5_putOn_51 : decode cX5_putOn 51 = .ok (.iconst 1, 1) := by decide +kernel
theorem dX5_putOn_52 : decode cX5_putOn 52 = .ok (.isub, 1) := by decide +kernel
theorem dX5_putOn_53 : decode cX5_putOn 53 = .ok (.iaload, 1) := by decide +kernel
theorem dX5_putOn_54 : decode cX5_putOn 54 = .ok (.iastore, 1) := by decide +kernel
theorem dX5_putOn_55 : decode cX5_putOn 55 = .ok (.iinc 4 (-1), 3) := by decide +kernel
theorem dX5_putOn_58 : decode cX5_putOn 58 = .ok (.goto (-38), 3) := by decide +kernel
theorem dX5_putOn_61 : decode cX5_putOn 61 = .ok (.aload_n 3, 1) := by decide +kernel
theorem dX5_putOn_62 : decode cX5_putOn 62 = .ok (.iload 4, 2) := by decide +kernel
theorem dX5_putOn_64 : decode cX5_putOn 64 = .ok (.iload_n 2, 1) := by decide +kernel
theorem dX5_putOn_65 : decode cX5_putOn 65 = .ok (.iastore, 1) := by decide +kernel
theorem dX5_putOn_66 : decode cX5_putOn 66 = .ok (.aload_n 0, 1) := by decide +kernel
theorem dX5_putOn_67 : decode cX5_putOn 67 = .ok (.getfield 29, 3) := by decide +kernel
theorem dX5_putOn_70 : decode cX5_putOn 70 = .ok (.iload_n 1, 1) := by decide +kernel
theorem dX5_putOn_71 : decode cX5_putOn 71 = .ok (.dup2, 1) := by decide +kernel
theorem dX5_putOn_72 : decode cX5_putOn 72 = .ok (.iaload, 1) := by decide +kernel
theorem dX5_putOn_73 : decode cX5_putOn 73 = .ok (.iconst 1, 1) := by decide +kernel
theorem dX5_putOn_74 : decode cX5_putOn 74 = .ok (.iadd, 1) := by decide +kernel
theorem dX5_putOn_75 : decode cX5_putOn 75 = .ok (.iastore, 1) := by decide +kernel
theorem dX5_putOn_76 : decode cX5_putOn 76 = .ok (.aload_n 0, 1) := by decide +kernel
theorem dX5_putOn_77 : decode cX5_putOn 77 = .ok (.getfield 32, 3) := by decide +kernel
theorem dX5_putOn_80 : decode cX5_putOn 80 = .ok (.iload_n 1, 1) := by decide +kernel
theorem dX5_putOn_81 : decode cX5_putOn 81 = .ok (.dup2, 1) := by decide +kernel
theorem dX5_putOn_82 : decode cX5_putOn 82 = .ok (.iaload, 1) := by decide +kernel
theorem dX5_putOn_83 : decode cX5_putOn 83 = .ok (.aload_n 0, 1) := by decide +kernel
theorem dX5_putOn_84 : decode cX5_putOn 84 = .ok (.getfield 21, 3) := by decide +kernel
theorem dX5_putOn_87 : decode cX5_putOn 87 = .ok (.iload_n 2, 1) := by decide +kernel
theorem dX5_putOn_88 : decode cX5_putOn 88 = .ok (.iaload, 1) := by decide +kernel
theorem dX5_putOn_89 : decode cX5_putOn 89 = .ok (.iadd, 1) := by decide +kernel
theorem dX5_putOn_90 : decode cX5_putOn 90 = .ok (.iastore, 1) := by decide +kernel
theorem dX5_putOn_91 : decode cX5_putOn 91 = .ok (.return_, 1) := by decide +kernel
theorem dX6_init_0 : decode cX6_init 0 = .ok (.aload_n 0, 1) := by decide +kernel
theorem dX6_init_1 : decode cX6_init 1 = .ok (.invokespecial 3, 3) := by decide +kernel
theorem dX6_init_4 : decode cX6_init 4 = .ok (.aload_n 0, 1) := by decide +kernel
theorem dX6_init_5 : decode cX6_init 5 = .ok (.bipush 8, 2) := by decide +kernel
theorem dX6_init_7 : decode cX6_init 7 = .ok (.newarray .int, 2) := by decide +kernel
theorem dX6_init_9 : decode cX6_init 9 = .ok (.putfield 9, 3) := by decide +kernel
theorem dX6_init_12 : decode cX6_init 12 = .ok (.aload_n 0, 1) := by decide +kernel
theorem dX6_init_13 : decode cX6_init 13 = .ok (.bipush 8, 2) := by decide +kernel
theorem dX6_init_15 : decode cX6_init 15 = .ok (.newarray .int, 2) := by decide +kernel
theorem dX6_init_17 : decode cX6_init 17 = .ok (.putfield 15, 3) := by decide +kernel
theorem dX6_init_20 : decode cX6_init 20 = .ok (.aload_n 0, 1) := by decide +kernel
theorem dX6_init_21 : decode cX6_init 21 = .ok (.bipush 8, 2) := by decide +kernel
theorem dX6_init_23 : decode cX6_init 23 = .ok (.newarray .int, 2) := by decide +kernel
theorem dX6_init_25 : decode cX6_init 25 = .ok (.putfield 18, 3) := by decide +kernel
theorem dX6_init_28 : decode cX6_init 28 = .ok (.aload_n 0, 1) := by decide +kernel
theorem dX6_init_29 : decode cX6_init 29 = .ok (.bipush 8, 2) := by decide +kernel
theorem dX6_init_31 : decode cX6_init 31 = .ok (.anewarray 21, 3) := by decide +kernel
theorem dX6_init_34 : decode cX6_init 34 = .ok (.putfield 23, 3) := by decide +kernel
theorem dX6_init_37 : decode cX6_init 37 = .ok (.aload_n 0, 1) := by decide +kernel
theorem dX6_init_38 : decode cX6_init 38 = .ok (.iconst 0, 1) := by decide +kernel
theorem dX6_init_39 : decode cX6_init 39 = .ok (.putfield 27, 3) := by decide +kernel
theorem dX6_init_42 : decode cX6_init 42 = .ok (.aload_n 0, 1) := by decide +kernel
theorem dX6_init_43 : decode cX6_init 43 = .ok (.bipush 8, 2) := by decide +kernel
theorem dX6_init_45 : decode cX6_init 45 = .ok (.newarray .int, 2) := by decide +kernel
theorem dX6_init_47 : decode cX6_init 47 = .ok (.putfield 31, 3) := by decide +kernel
theorem dX6_init_50 : decode cX6_init 50 = .ok (.aload_n 0, 1) := by decide +kernel
theorem dX6_init_51 : decode cX6_init 51 = .ok (.bipush 8, 2) := by decide +kernel
theorem dX6_init_53 : decode cX6_init 53 = .ok (.newarray .int, 2) := by decide +kernel
theorem dX6_init_55 : decode cX6_init 55 = .ok (.putfield 34, 3) := by decide +kernel
theorem dX6_init_58 : decode cX6_init 58 = .ok (.aload_n 0, 1) := by decide +kernel
theorem dX6_init_59 : decode cX6_init 59 = .ok (.iconst 3, 1) := by decide +kernel
theorem dX6_init_60 : decode cX6_init 60 = .ok (.newarray .int, 2) := by decide +kernel
theorem dX6_init_62 : decode cX6_init 62 = .ok (.putfield 37, 3) := by decide +kernel
theorem dX6_init_65 : decode cX6_init 65 = .ok (.aload_n 0, 1) := by decide +kernel
theorem dX6_init_66 : decode cX6_init 66 = .ok (.iconst 0, 1) := by decide +kernel
theorem dX6_init_67 : decode cX6_init 67 = .ok (.putfield 40, 3) := by decide +kernel
theorem dX6_init_70 : decode cX6_init 70 = .ok (.aload_n 0, 1) := by decide +kernel
theorem dX6_init_71 : decode cX6_init 71 = .ok (.iconst 0, 1) := by decide +kernel
theorem dX6_init_72 : decode cX6_init 72 = .ok (.putfield 43, 3) := by decide +kernel
theorem dX6_init_75 : decode cX6_init 75 = .ok (.aload_n 0, 1) := by decide +kernel
theorem dX6_init_76 : decode cX6_init 76 = .ok (.iconst 0, 1) := by decide +kernel
theorem dX6_init_77 : decode cX6_init 77 = .ok (.putfield 46, 3) := by decide +kernel
theorem dX6_init_80 : decode cX6_init 80 = .ok (.return_, 1) := by decide +kernel
theorem dX6_grow_0 : decode cX6_grow 0 = .ok (.aload_n 0, 1) := by decide +kernel
theorem dX6_grow_1 : decode cX6_grow 1 = .ok (.getfield 27, 3) := by decide +kernel
theorem dX6_grow_4 : decode cX6_grow 4 = .ok (.bipush 8, 2) := by decide +kernel
theorem dX6_grow_6 : decode cX6_grow 6 = .ok (.if_icmp .lt 6, 3) := by decide +kernel
theorem dX6_grow_9 : decode cX6_grow 9 = .ok (.ldc 49, 2) := by decide +kernel
theorem dX6_grow_11 : decode cX6_grow 11 = .ok (.ireturn, 1) := by decide +kernel
theorem dX6_grow_12 : decode cX6_grow 12 = .ok (.aload_n 0, 1) := by decide +kernel
theorem dX6_grow_13 : decode cX6_grow 13 = .ok (.getfield 9, 3) := by decide +kernel
theorem dX6_grow_16 : decode cX6_grow 16 = .ok (.aload_n 0, 1) := by decide +kernel
theorem dX6_grow_17 : decode cX6_grow 17 = .ok (.getfield 27, 3) := by decide +kernel
theorem dX6_grow_20 : decode cX6_grow 20 = .ok (.iload_n 1, 1) := by decide +kernel
theorem dX6_grow_21 : decode cX6_grow 21 = .ok (.iastore, 1) := by decide +kernel
theorem dX6_grow_22 : decode cX6_grow 22 = .ok (.aload_n 0, 1) := by decide +kernel
theorem dX6_grow_23 : decode cX6_grow 23 = .ok (.getfield 15, 3) := by decide +kernel
theorem dX6_grow_26 : decode cX6_grow 26 = .ok (.aload_n 0, 1) := by decide +kernel
theorem dX6_grow_27 : decode cX6_grow 27 = .ok (.getfield 27, 3) := by decide +kernel
theorem dX6_grow_30 : decode cX6_grow 30 = .ok (.iload_n 2, 1) := by decide +kernel
theorem dX6_grow_31 : decode cX6_grow 31 = .ok (.iastore, 1) := by decide +kernel
theorem dX6_grow_32 : decode cX6_grow 32 = .ok (.aload_n 0, 1) := by decide +kernel
theorem dX6_grow_33 : decode cX6_grow 33 = .ok (.getfield 18, 3) := by decide +kernel
theorem dX6_grow_36 : decode cX6_grow 36 = .ok (.aload_n 0, 1) := by decide +kernel
theorem dX6_grow_37 : decode cX6_grow 37 = .ok (.getfield 27, 3) := by decide +kernel
theorem dX6_grow_40 : decode cX6_grow 40 = .ok (.iload_n 3, 1) := by decide +kernel
theorem dX6_grow_41 : decode cX6_grow 41 = .ok (.iastore, 1) := by decide +kernel
theorem dX6_grow_42 : decode cX6_grow 42 = .ok (.aload_n 0, 1) := by decide +kernel
theorem dX6_grow_43 : decode cX6_grow 43 = .ok (.getfield 23, 3) := by decide +kernel
theorem dX6_grow_46 : decode cX6_grow 46 = .ok (.aload_n 0, 1) := by decide +kernel
theorem dX6_grow_47 : decode cX6_grow 47 = .ok (.getfield 27, 3) := by decide +kernel
theorem dX6_grow_50 : decode cX6_grow 50 = .ok (.aconst_null, 1) := by decide +kernel
theorem dX6_grow_51 : decode cX6_grow 51 = .ok (.aastore, 1) := by decide +kernel
theorem dX6_grow_52 : decode cX6_grow 52 = .ok (.aload_n 0, 1) := by decide +kernel
theorem dX6_grow_53 : decode cX6_grow 53 = .ok (.dup, 1) := by decide +kernel
theorem dX6_grow_54 : decode cX6_grow 54 = .ok (.getfield 27, 3) := by decide +kernel
theorem dX6_grow_57 : decode cX6_grow 57 = .ok (.iconst 1, 1) := by decide +kernel
theorem dX6_grow_58 : decode cX6_grow 58 = .ok (.iadd, 1) := by decide +kernel
theorem dX6_grow_59 : decode cX6_grow 59 = .ok (.putfield 27, 3) := by decide +kernel
theorem dX6_grow_62 : decode cX6_grow 62 = .ok (.aload_n 0, 1) := by decide +kernel
theorem dX6_grow_63 : decode cX6_grow 63 = .ok (.getfield 27, 3) := by decide +kernel
theorem dX6_grow_66 : decode cX6_grow 66 = .ok (.iconst 1, 1) := by decide +kernel
theorem dX6_grow_67 : decode cX6_grow 67 = .ok (.isub, 1) := by decide +kernel
theorem dX6_grow_68 : decode cX6_grow 68 = .ok (.ireturn, 1) := by decide +kernel
theorem dX6_fell_0 : decode cX6_fell 0 = .ok (.aload_n 0, 1) := by decide +kernel
theorem dX6_fell_1 : decode cX6_fell 1 = .ok (.getfield 27, 3) := by decide +kernel
theorem dX6_fell_4 : decode cX6_fell 4 = .ok (.istore_n 1, 1) := by decide +kernel
theorem dX6_fell_5 : decode cX6_fell 5 = .ok (.aload_n 0, 1) := by decide +kernel
theorem dX6_fell_6 : decode cX6_fell 6 = .ok (.iconst 0, 1) := by decide +kernel
theorem dX6_fell_7 : decode cX6_fell 7 = .ok (.putfield 27, 3) := by decide +kernel
theorem dX6_fell_10 : decode cX6_fell 10 = .ok (.iconst 0, 1) := by decide +kernel
theorem dX6_fell_11 : decode cX6_fell 11 = .ok (.istore_n 2, 1) := by decide +kernel
theorem dX6_fell_12 : decode cX6_fell 12 = .ok (.iload_n 2, 1) := by decide +kernel
theorem dX6_fell_13 : decode cX6_fell 13 = .ok (.bipush 8, 2) := by decide +kernel
theorem dX6_fell_15 : decode cX6_fell 15 = .ok (.if_icmp .ge 16, 3) := by decide +kernel
theorem dX6_fell_18 : decode cX6_fell 18 = .ok (.aload_n 0, 1) := by decide +kernel
theorem dX6_fell_19 : decode cX6_fell 19 = .ok (.getfield 23, 3) := by decide +kernel
theorem dX6_fell_22 : decode cX6_fell 22 = .ok (.iload_n 2, 1) := by decide +kernel
theorem dX6_fell_23 : decode cX6_fell 23 = .ok (.aconst_null, 1) := by decide +kernel
theorem dX6_fell_24 : decode cX6_fell 24 = .ok (.aastore, 1) := by decide +kernel
theorem dX6_fell_25 : decode cX6_fell 25 = .ok (.iinc 2 1, 3) := by decide +kernel
theorem dX6_fell_28 : decode cX6_fell 28 = .ok (.goto (-16), 3) := by decide +kernel
theorem dX6_fell_31 : decode cX6_fell 31 = .ok (.iload_n 1, 1) := by decide +kernel
theorem dX6_fell_32 : decode cX6_fell 32 = .ok (.ireturn, 1) := by decide +kernel
theorem dX6_holds_0 : decode cX6_holds 0 = .ok (.aload_n 1, 1) := by decide +kernel
theorem dX6_holds_1 : decode cX6_holds 1 = .ok (.ifnonnull 5, 3) := by decide +kernel
theorem dX6_holds_4 : decode cX6_holds 4 = .ok (.iconst 0, 1) := by decide +kernel
theorem dX6_holds_5 : decode cX6_holds 5 = .ok (.ireturn, 1) := by decide +kernel
theorem dX6_holds_6 : decode cX6_holds 6 = .ok (.iconst 0, 1) := by decide +kernel
theorem dX6_holds_7 : decode cX6_holds 7 = .ok (.istore_n 2, 1) := by decide +kernel
theorem dX6_holds_8 : decode cX6_holds 8 = .ok (.iload_n 2, 1) := by decide +kernel
theorem dX6_holds_9 : decode cX6_holds 9 = .ok (.aload_n 0, 1) := by decide +kernel
theorem dX6_holds_10 : decode cX6_holds 10 = .ok (.getfield 27, 3) := by decide +kernel
theorem dX6_holds_13 : decode cX6_holds 13 = .ok (.if_icmp .ge 21, 3) := by decide +kernel
theorem dX6_holds_16 : decode cX6_holds 16 = .ok (.aload_n 0, 1) := by decide +kernel
theorem dX6_holds_17 : decode cX6_holds 17 = .ok (.getfield 23, 3) := by decide +kernel
theorem dX6_holds_20 : decode cX6_holds 20 = .ok (.iload_n 2, 1) := by decide +kernel
theorem dX6_holds_21 : decode cX6_holds 21 = .ok (.aaload, 1) := by decide +kernel
theorem dX6_holds_22 : decode cX6_holds 22 = .ok (.aload_n 1, 1) := by decide +kernel
theorem dX6_holds_23 : decode cX6_holds 23 = .ok (.if_acmp .ne 5, 3) := by decide +kernel
theorem dX6_holds_26 : decode cX6_holds 26 = .ok (.iconst 1, 1) := by decide +kernel
theorem dX6_holds_27 : decode cX6_holds 27 = .ok (.ireturn, 1) := by decide +kernel
theorem dX6_holds_28 : decode cX6_holds 28 = .ok (.iinc 2 1, 3) := by decide +kernel
theorem dX6_holds_31 : decode cX6_holds 31 = .ok (.goto (-23), 3) := by decide +kernel
theorem dX6_holds_34 : decode cX6_holds 34 = .ok (.iconst 0, 1) := by decide +kernel
theorem dX6_holds_35 : decode cX6_holds 35 = .ok (.ireturn, 1) := by decide +kernel
theorem dX6_taken_0 : decode cX6_taken 0 = .ok (.aload_n 0, 1) := by decide +kernel
theorem dX6_taken_1 : decode cX6_taken 1 = .ok (.getfield 23, 3) := by decide +kernel
theorem dX6_taken_4 : decode cX6_taken 4 = .ok (.iload_n 1, 1) := by decide +kernel
theorem dX6_taken_5 : decode cX6_taken 5 = .ok (.aaload, 1) := by decide +kernel
theorem dX6_taken_6 : decode cX6_taken 6 = .ok (.ifnull 7, 3) := by decide +kernel
theorem dX6_taken_9 : decode cX6_taken 9 = .ok (.iconst 1, 1) := by decide +kernel
theorem dX6_taken_10 : decode cX6_taken 10 = .ok (.goto 4, 3) := by decide +kernel
theorem dX6_taken_13 : decode cX6_taken 13 = .ok (.iconst 0, 1) := by decide +kernel
theorem dX6_taken_14 : decode cX6_taken 14 = .ok (.ireturn, 1) := by decide +kernel
theorem dX6_hangAt_0 : decode cX6_hangAt 0 = .ok (.aload_n 0, 1) := by decide +kernel
theorem dX6_hangAt_1 : decode cX6_hangAt 1 = .ok (.getfield 23, 3) := by decide +kernel
theorem dX6_hangAt_4 : decode cX6_hangAt 4 = .ok (.iload_n 1, 1) := by decide +kernel
theorem dX6_hangAt_5 : decode cX6_hangAt 5 = .ok (.aload_n 2, 1) := by decide +kernel
theorem dX6_hangAt_6 : decode cX6_hangAt 6 = .ok (.aastore, 1) := by decide +kernel
theorem dX6_hangAt_7 : decode cX6_hangAt 7 = .ok (.aload_n 0, 1) := by decide +kernel
theorem dX6_hangAt_8 : decode cX6_hangAt 8 = .ok (.invokevirtual 50, 3) := by decide +kernel
theorem dX6_hangAt_11 : decode cX6_hangAt 11 = .ok (.ireturn, 1) := by decide +kernel
theorem dX6_howManyHang_0 : decode cX6_howManyHang 0 = .ok (.iconst 0, 1) := by decide +kernel
theorem dX6_howManyHang_1 : decode cX6_howManyHang 1 = .ok (.istore_n 1, 1) := by decide +kernel
theorem dX6_howManyHang_2 : decode cX6_howManyHang 2 = .ok (.iconst 0, 1) := by decide +kernel
theorem dX6_howManyHang_3 : decode cX6_howManyHang 3 = .ok (.istore_n 2, 1) := by decide +kernel
theorem dX6_howManyHang_4 : decode cX6_howManyHang 4 = .ok (.iload_n 2, 1) := by decide +kernel
theorem dX6_howManyHang_5 : decode cX6_howManyHang 5 = .ok (.aload_n 0, 1) := by decide +kernel
theorem dX6_howManyHang_6 : decode cX6_howManyHang 6 = .ok (.getfield 27, 3) := by decide +kernel
theorem dX6_howManyHang_9 : decode cX6_howManyHang 9 = .ok (.if_icmp .ge 21, 3) := by decide +kernel
theorem dX6_howManyHang_12 : decode cX6_howManyHang 12 = .ok (.aload_n 0, 1) := by decide +kernel
theorem dX6_howManyHang_13 : decode cX6_howManyHang 13 = .ok (.getfield 23, 3) := by decide +kernel
theorem dX6_howManyHang_16 : decode cX6_howManyHang 16 = .ok (.iload_n 2, 1) := by decide +kernel
theorem dX6_howManyHang_17 : decode cX6_howManyHang 17 = .ok (.aaload, 1) := by decide +kernel
theorem dX6_howManyHang_18 : decode cX6_howManyHang 18 = .ok (.ifnull 6, 3) := by decide +kernel
theorem dX6_howManyHang_21 : decode cX6_howManyHang 21 = .ok (.iinc 1 1, 3) := by decide +kernel
theorem dX6_howManyHang_24 : decode cX6_howManyHang 24 = .ok (.iinc 2 1, 3) := by decide +kernel
theorem dX6_howManyHang_27 : decode cX6_howManyHang 27 = .ok (.goto (-23), 3) := by decide +kernel
theorem dX6_howManyHang_30 : decode cX6_howManyHang 30 = .ok (.iload_n 1, 1) := by decide +kernel
theorem dX6_howManyHang_31 : decode cX6_howManyHang 31 = .ok (.ireturn, 1) := by decide +kernel
theorem dX6_mass_0 : decode cX6_mass 0 = .ok (.iconst 0, 1) := by decide +kernel
theorem dX6_mass_1 : decode cX6_mass 1 = .ok (.istore_n 1, 1) := by decide +kernel
theorem dX6_mass_2 : decode cX6_mass 2 = .ok (.iconst 0, 1) := by decide +kernel
theorem dX6_mass_3 : decode cX6_mass 3 = .ok (.istore_n 2, 1) := by decide +kernel
theorem dX6_mass_4 : decode cX6_mass 4 = .ok (.iload_n 2, 1) := by decide +kernel
theorem dX6_mass_5 : decode cX6_mass 5 = .ok (.aload_n 0, 1) := by decide +kernel
theorem dX6_mass_6 : decode cX6_mass 6 = .ok (.getfield 27, 3) := by decide +kernel
theorem dX6_mass_9 : decode cX6_mass 9 = .ok (.if_icmp .ge 32, 3) := by decide +kernel
theorem dX6_mass_12 : decode cX6_mass 12 = .ok (.iload_n 1, 1) := by decide +kernel
theorem dX6_mass_13 : decode cX6_mass 13 = .ok (.aload_n 0, 1) := by decide +kernel
theorem dX6_mass_14 : decode cX6_mass 14 = .ok (.getfield 15, 3) := by decide +kernel
theorem dX6_mass_17 : decode cX6_mass 17 = .ok (.iload_n 2, 1) := by decide +kernel
theorem dX6_mass_18 : decode cX6_mass 18 = .ok (.iaload, 1) := by decide +kernel
theorem dX6_mass_19 : decode cX6_mass 19 = .ok (.aload_n 0, 1) := by decide +kernel
theorem dX6_mass_20 : decode cX6_mass 20 = .ok (.getfield 18, 3) := by decide +kernel
theorem dX6_mass_23 : decode cX6_mass 23 = .ok (.iload_n 2, 1) := by decide +kernel
theorem dX6_mass_24 : decode cX6_mass 24 = .ok (.iaload, 1) := by decide +kernel
theorem dX6_mass_25 : decode cX6_mass 25 = .ok (.imul, 1) := by decide +kernel
theorem dX6_mass_26 : decode cX6_mass 26 = .ok (.aload_n 0, 1) := by decide +kernel
theorem dX6_mass_27 : decode cX6_mass 27 = .ok (.getfield 18, 3) := by decide +kernel
theorem dX6_mass_30 : decode cX6_mass 30 = .ok (.iload_n 2, 1) := by decide +kernel
theorem dX6_mass_31 : decode cX6_mass 31 = .ok (.iaload, 1) := by decide +kernel
theorem dX6_mass_32 : decode cX6_mass 32 = .ok (.imul, 1) := by decide +kernel
theorem dX6_mass_33 : decode cX6_mass 33 = .ok (.iadd, 1) := by decide +kernel
theorem dX6_mass_34 : decode cX6_mass 34 = .ok (.istore_n 1, 1) := by decide +kernel
theorem dX6_mass_35 : decode cX6_mass 35 = .ok (.iinc 2 1, 3) := by decide +kernel
theorem dX6_mass_38 : decode cX6_mass 38 = .ok (.goto (-34), 3) := by decide +kernel
theorem dX6_mass_41 : decode cX6_mass 41 = .ok (.iload_n 1, 1) := by decide +kernel
theorem dX6_mass_42 : decode cX6_mass 42 = .ok (.ireturn, 1) := by decide +kernel
theorem dX6_endAt_0 : decode cX6_endAt 0 = .ok (.aload_n 0, 1) := by decide +kernel
theorem dX6_endAt_1 : decode cX6_endAt 1 = .ok (.invokevirtual 54, 3) := by decide +kernel
theorem dX6_endAt_4 : decode cX6_endAt 4 = .ok (.aload_n 0, 1) := by decide +kernel
theorem dX6_endAt_5 : decode cX6_endAt 5 = .ok (.getfield 23, 3) := by decide +kernel
theorem dX6_endAt_8 : decode cX6_endAt 8 = .ok (.iload_n 1, 1) := by decide +kernel
theorem dX6_endAt_9 : decode cX6_endAt 9 = .ok (.aaload, 1) := by decide +kernel
theorem dX6_endAt_10 : decode cX6_endAt 10 = .ok (.astore_n 2, 1) := by decide +kernel
theorem dX6_endAt_11 : decode cX6_endAt 11 = .ok (.aload_n 2, 1) := by decide +kernel
theorem dX6_endAt_12 : decode cX6_endAt 12 = .ok (.ifnonnull 8, 3) := by decide +kernel
theorem dX6_endAt_15 : decode cX6_endAt 15 = .ok (.ldc 57, 2) := by decide +kernel
theorem dX6_endAt_17 : decode cX6_endAt 17 = .ok (.goto 14, 3) := by decide +kernel
theorem dX6_endAt_20 : decode cX6_endAt 20 = .ok (.aload_n 0, 1) := by decide +kernel
theorem dX6_endAt_21 : decode cX6_endAt 21 = .ok (.getfield 31, 3) := by decide +kernel
theorem dX6_endAt_24 : decode cX6_endAt 24 = .ok (.iload_n 1, 1) := by decide +kernel
theorem dX6_endAt_25 : decode cX6_endAt 25 = .ok (.iaload, 1) := by decide +kernel
theorem dX6_endAt_26 : decode cX6_endAt 26 = .ok (.aload_n 2, 1) := by decide +kernel
theorem dX6_endAt_27 : decode cX6_endAt 27 = .ok (.getfield 58, 3) := by decide +kernel
theorem dX6_endAt_30 : decode cX6_endAt 30 = .ok (.iadd, 1) := by decide +kernel
theorem dX6_endAt_31 : decode cX6_endAt 31 = .ok (.ireturn, 1) := by decide +kernel
theorem dX6_spread_0 : decode cX6_spread 0 = .ok (.aload_n 0, 1) := by decide +kernel
theorem dX6_spread_1 : decode cX6_spread 1 = .ok (.invokevirtual 54, 3) := by decide +kernel
theorem dX6_spread_4 : decode cX6_spread 4 = .ok (.ldc 61, 2) := by decide +kernel
theorem dX6_spread_6 : decode cX6_spread 6 = .ok (.istore_n 1, 1) := by decide +kernel
theorem dX6_spread_7 : decode cX6_spread 7 = .ok (.iconst 0, 1) := by decide +kernel
theorem dX6_spread_8 : decode cX6_spread 8 = .ok (.istore_n 2, 1) := by decide +kernel
theorem dX6_spread_9 : decode cX6_spread 9 = .ok (.iconst 0, 1) := by decide +kernel
theorem dX6_spread_10 : decode cX6_spread 10 = .ok (.istore_n 3, 1) := by decide +kernel
theorem dX6_spread_11 : decode cX6_spread 11 = .ok (.iload_n 3, 1) := by decide +kernel
theorem dX6_spread_12 : decode cX6_spread 12 = .ok (.aload_n 0, 1) := by decide +kernel
theorem dX6_spread_13 : decode cX6_spread 13 = .ok (.getfield 27, 3) := by decide +kernel
theorem dX6_spread_16 : decode cX6_spread 16 = .ok (.if_icmp .ge 59, 3) := by decide +kernel
theorem dX6_spread_19 : decode cX6_spread 19 = .ok (.aload_n 0, 1) := by decide +kernel
theorem dX6_spread_20 : decode cX6_spread 20 = .ok (.getfield 23, 3) := by decide +kernel
theorem dX6_spread_23 : decode cX6_spread 23 = .ok (.iload_n 3, 1) := by decide +kernel
theorem dX6_spread_24 : decode cX6_spread 24 = .ok (.aaload, 1) := by decide +kernel
theorem dX6_spread_25 : decode cX6_spread 25 = .ok (.astore 4, 2) := by decide +kernel
theorem dX6_spread_27 : decode cX6_spread 27 = .ok (.aload 4, 2) := by decide +kernel
theorem dX6_spread_29 : decode cX6_spread 29 = .ok (.ifnonnull 6, 3) := by decide +kernel
theorem dX6_spread_32 : decode cX6_spread 32 = .ok (.goto 37, 3) := by decide +kernel
theorem dX6_spread_35 : decode cX6_spread 35 = .ok (.iload_n 1, 1) := by decide +kernel
theorem dX6_spread_36 : decode cX6_spread 36 = .ok (.aload_n 0, 1) := by decide +kernel
theorem dX6_spread_37 : decode cX6_spread 37 = .ok (.getfield 31, 3) := by decide +kernel
theorem dX6_spread_40 : decode cX6_spread 40 = .ok (.iload_n 3, 1) := by decide +kernel
theorem dX6_spread_41 : decode cX6_spread 41 = .ok (.iaload, 1) := by decide +kernel
theorem dX6_spread_42 : decode cX6_spread 42 = .ok (.aload 4, 2) := by decide +kernel
theorem dX6_spread_44 : decode cX6_spread 44 = .ok (.getfield 58, 3) := by decide +kernel
theorem dX6_spread_47 : decode cX6_spread 47 = .ok (.iadd, 1) := by decide +kernel
theorem dX6_spread_48 : decode cX6_spread 48 = .ok (.invokestatic 62, 3) := by decide +kernel
theorem dX6_spread_51 : decode cX6_spread 51 = .ok (.istore_n 1, 1) := by decide +kernel
theorem dX6_spread_52 : decode cX6_spread 52 = .ok (.iload_n 2, 1) := by decide +kernel
theorem dX6_spread_53 : decode cX6_spread 53 = .ok (.aload_n 0, 1) := by decide +kernel
theorem dX6_spread_54 : decode cX6_spread 54 = .ok (.getfield 31, 3) := by decide +kernel
theorem dX6_spread_57 : decode cX6_spread 57 = .ok (.iload_n 3, 1) := by decide +kernel
theorem dX6_spread_58 : decode cX6_spread 58 = .ok (.iaload, 1) := by decide +kernel
theorem dX6_spread_59 : decode cX6_spread 59 = .ok (.aload 4, 2) := by decide +kernel
theorem dX6_spread_61 : decode cX6_spread 61 = .ok (.getfield 58, 3) := by decide +kernel
theorem dX6_spread_64 : decode cX6_spread 64 = .ok (.iadd, 1) := by decide +kernel
theorem dX6_spread_65 : decode cX6_spread 65 = .ok (.invokestatic 68, 3) := by decide +kernel
theorem dX6_spread_68 : decode cX6_spread 68 = .ok (.istore_n 2, 1) := by decide +kernel
theorem dX6_spread_69 : decode cX6_spread 69 = .ok (.iinc 3 1, 3) := by decide +kernel
theorem dX6_spread_72 : decode cX6_spread 72 = .ok (.goto (-61), 3) := by decide +kernel
theorem dX6_spread_75 : decode cX6_spread 75 = .ok (.iload_n 1, 1) := by decide +kernel
theorem dX6_spread_76 : decode cX6_spread 76 = .ok (.iload_n 2, 1) := by decide +kernel
theorem dX6_spread_77 : decode cX6_spread 77 = .ok (.invokestatic 71, 3) := by decide +kernel
theorem dX6_spread_80 : decode cX6_spread 80 = .ok (.ireturn, 1) := by decide +kernel
theorem dX6_takeBestSizes_0 : decode cX6_takeBestSizes 0 = .ok (.aload_n 0, 1) := by decide +kernel
theorem dX6_takeBestSizes_1 : decode cX6_takeBestSizes 1 = .ok (.iconst 0, 1) := by decide +kernel
theorem dX6_takeBestSizes_2 : decode cX6_takeBestSizes 2 = .ok (.putfield 40, 3) := by decide +kernel
theorem dX6_takeBestSizes_5 : decode cX6_takeBestSizes 5 = .ok (.iconst 1, 1) := by decide +kernel
theorem dX6_takeBestSizes_6 : decode cX6_takeBestSizes 6 = .ok (.istore_n 2, 1) := by decide +kernel
theorem dX6_takeBestSizes_7 : decode cX6_takeBestSizes 7 = .ok (.iload_n 2, 1) := by decide +kernel
theorem dX6_takeBestSizes_8 : decode cX6_takeBestSizes 8 = .ok (.bipush 9, 2) := by decide +kernel
theorem dX6_takeBestSizes_10 : decode cX6_takeBestSizes 10 = .ok (.if_icmp .gt 46, 3) := by decide +kernel
theorem dX6_takeBestSizes_13 : decode cX6_takeBestSizes 13 = .ok (.iload_n 1, 1) := by decide +kernel
theorem dX6_takeBestSizes_14 : decode cX6_takeBestSizes 14 = .ok (.iload_n 2, 1) := by decide +kernel
theorem dX6_takeBestSizes_15 : decode cX6_takeBestSizes 15 = .ok (.ishr, 1) := by decide +kernel
theorem dX6_takeBestSizes_16 : decode cX6_takeBestSizes 16 = .ok (.iconst 1, 1) := by decide +kernel
theorem dX6_takeBestSizes_17 : decode cX6_takeBestSizes 17 = .ok (.iand, 1) := by decide +kernel
theorem dX6_takeBestSizes_18 : decode cX6_takeBestSizes 18 = .ok (.iconst 1, 1) := by decide +kernel
theorem dX6_takeBestSizes_19 : decode cX6_takeBestSizes 19 = .ok (.if_icmp .ne 31, 3) := by decide +kernel
theorem dX6_takeBestSizes_22 : decode cX6_takeBestSizes 22 = .ok (.aload_n 0, 1) := by decide +kernel
theorem dX6_takeBestSizes_23 : decode cX6_takeBestSizes 23 = .ok (.getfield 40, 3) := by decide +kernel
theorem dX6_takeBestSizes_26 : decode cX6_takeBestSizes 26 = .ok (.iconst 3, 1) := by decide +kernel
theorem dX6_takeBestSizes_27 : decode cX6_takeBestSizes 27 = .ok (.if_icmp .ge 23, 3) := by decide +kernel
theorem dX6_takeBestSizes_30 : decode cX6_takeBestSizes 30 = .ok (.aload_n 0, 1) := by decide +kernel
theorem dX6_takeBestSizes_31 : decode cX6_takeBestSizes 31 = .ok (.getfield 37, 3) := by decide +kernel
theorem dX6_takeBestSizes_34 : decode cX6_takeBestSizes 34 = .ok (.aload_n 0, 1) := by decide +kernel
theorem dX6_takeBestSizes_35 : decode cX6_takeBestSizes 35 = .ok (.getfield 40, 3) := by decide +kernel
theorem dX6_takeBestSizes_38 : decode cX6_takeBestSizes 38 = .ok (.iload_n 2, 1) := by decide +kernel
theorem dX6_takeBestSizes_39 : decode cX6_takeBestSizes 39 = .ok (.iastore, 1) := by decide +kernel
theorem dX6_takeBestSizes_40 : decode cX6_takeBestSizes 40 = .ok (.aload_n 0, 1) := by decide +kernel
theorem dX6_takeBestSizes_41 : decode cX6_takeBestSizes 41 = .ok (.dup, 1) := by decide +kernel
theorem dX6_takeBestSizes_42 : decode cX6_takeBestSizes 42 = .ok (.getfield 40, 3) := by decide +kernel
theorem dX6_takeBestSizes_45 : decode cX6_takeBestSizes 45 = .ok (.iconst 1, 1) := by decide +kernel
theorem dX6_takeBestSizes_46 : decode cX6_takeBestSizes 46 = .ok (.iadd, 1) := by decide +kernel
theorem dX6_takeBestSizes_47 : decode cX6_takeBestSizes 47 = .ok (.putfield 40, 3) := by decide +kernel
theorem dX6_takeBestSizes_50 : decode cX6_takeBestSizes 50 = .ok (.iinc 2 1, 3) := by decide +kernel
theorem dX6_takeBestSizes_53 : decode cX6_takeBestSizes 53 = .ok (.goto (-46), 3) := by decide +kernel
theorem dX6_takeBestSizes_56 : decode cX6_takeBestSizes 56 = .ok (.aload_n 0, 1) := by decide +kernel
theorem dX6_takeBestSizes_57 : decode cX6_takeBestSizes 57 = .ok (.ldc 61, 2) := by decide +kernel
theorem dX6_takeBestSizes_59 : decode cX6_takeBestSizes 59 = .ok (.putfield 43, 3) := by decide +kernel
theorem dX6_takeBestSizes_62 : decode cX6_takeBestSizes 62 = .ok (.aload_n 0, 1) := by decide +kernel
theorem dX6_takeBestSizes_63 : decode cX6_takeBestSizes 63 = .ok (.ldc 61, 2) := by decide +kernel
theorem dX6_takeBestSizes_65 : decode cX6_takeBestSizes 65 = .ok (.putfield 46, 3) := by decide +kernel
theorem dX6_takeBestSizes_68 : decode cX6_takeBestSizes 68 = .ok (.aload_n 0, 1) := by decide +kernel
theorem dX6_takeBestSizes_69 : decode cX6_takeBestSizes 69 = .ok (.iconst 0, 1) := by decide +kernel
theorem dX6_takeBestSizes_70 : decode cX6_takeBestSizes 70 = .ok (.ldc 61, 2) := by decide +kernel
theorem dX6_takeBestSizes_72 : decode cX6_takeBestSizes 72 = .ok (.iconst 0, 1) := by decide +kernel
theorem dX6_takeBestSizes_73 : decode cX6_takeBestSizes 73 = .ok (.iconst 0, 1) := by decide +kernel
theorem dX6_takeBestSizes_74 : decode cX6_takeBestSizes 74 = .ok (.invokevirtual 74, 3) := by decide +kernel
theorem dX6_takeBestSizes_77 : decode cX6_takeBestSizes 77 = .ok (.return_, 1) := by decide +kernel
theorem dX6_tryFrom_0 : decode cX6_tryFrom 0 = .ok (.iload_n 1, 1) := by decide +kernel
theorem dX6_tryFrom_1 : decode cX6_tryFrom 1 = .ok (.aload_n 0, 1) := by decide +kernel
theorem dX6_tryFrom_2 : decode cX6_tryFrom 2 = .ok (.getfield 27, 3) := by decide +kernel
theorem dX6_tryFrom_5 : decode cX6_tryFrom 5 = .ok (.if_icmp .ge 9, 3) := by decide +kernel
theorem dX6_tryFrom_8 : decode cX6_tryFrom 8 = .ok (.iload_n 1, 1) := by decide +kernel
theorem dX6_tryFrom_9 : decode cX6_tryFrom 9 = .ok (.bipush 8, 2) := by decide +kernel
theorem dX6_tryFrom_11 : decode cX6_tryFrom 11 = .ok (.if_icmp .lt 36, 3) := by decide +kernel
theorem dX6_tryFrom_14 : decode cX6_tryFrom 14 = .ok (.aload_n 0, 1) := by decide +kernel
theorem dX6_tryFrom_15 : decode cX6_tryFrom 15 = .ok (.iload_n 2, 1) := by decide +kernel
theorem dX6_tryFrom_16 : decode cX6_tryFrom 16 = .ok (.iload_n 3, 1) := by decide +kernel
theorem dX6_tryFrom_17 : decode cX6_tryFrom 17 = .ok (.invokestatic 71, 3) := by decide +kernel
theorem dX6_tryFrom_20 : decode cX6_tryFrom 20 = .ok (.putfield 43, 3) := by decide +kernel
theorem dX6_tryFrom_23 : decode cX6_tryFrom 23 = .ok (.aload_n 0, 1) := by decide +kernel
theorem dX6_tryFrom_24 : decode cX6_tryFrom 24 = .ok (.iload 4, 2) := by decide +kernel
theorem dX6_tryFrom_26 : decode cX6_tryFrom 26 = .ok (.putfield 46, 3) := by decide +kernel
theorem dX6_tryFrom_29 : decode cX6_tryFrom 29 = .ok (.aload_n 0, 1) := by decide +kernel
theorem dX6_tryFrom_30 : decode cX6_tryFrom 30 = .ok (.getfield 34, 3) := by decide +kernel
theorem dX6_tryFrom_33 : decode cX6_tryFrom 33 = .ok (.iconst 0, 1) := by decide +kernel
theorem dX6_tryFrom_34 : decode cX6_tryFrom 34 = .ok (.aload_n 0, 1) := by decide +kernel
theorem dX6_tryFrom_35 : decode cX6_tryFrom 35 = .ok (.getfield 18, 3) := by decide +kernel
theorem dX6_tryFrom_38 : decode cX6_tryFrom 38 = .ok (.iconst 0, 1) := by decide +kernel
theorem dX6_tryFrom_39 : decode cX6_tryFrom 39 = .ok (.aload_n 0, 1) := by decide +kernel
theorem dX6_tryFrom_40 : decode cX6_tryFrom 40 = .ok (.getfield 27, 3) := by decide +kernel
theorem dX6_tryFrom_43 : decode cX6_tryFrom 43 = .ok (.invokestatic 78, 3) := by decide +kernel
theorem dX6_tryFrom_46 : decode cX6_tryFrom 46 = .ok (.return_, 1) := by decide +kernel
theorem dX6_tryFrom_47 : decode cX6_tryFrom 47 = .ok (.iconst 0, 1) := by decide +kernel
theorem dX6_tryFrom_48 : decode cX6_tryFrom 48 = .ok (.istore 5, 2) := by decide +kernel
theorem dX6_tryFrom_50 : decode cX6_tryFrom 50 = .ok (.iload 5, 2) := by decide +kernel
theorem dX6_tryFrom_52 : decode cX6_tryFrom 52 = .ok (.aload_n 0, 1) := by decide +kernel
theorem dX6_tryFrom_53 : decode cX6_tryFrom 53 = .ok (.getfield 40, 3) := by decide +kernel
theorem dX6_tryFrom_56 : decode cX6_tryFrom 56 = .ok (.if_icmp .ge 167, 3) := by decide +kernel
theorem dX6_tryFrom_59 : decode cX6_tryFrom 59 = .ok (.aload_n 0, 1) := by decide +kernel
theorem dX6_tryFrom_60 : decode cX6_tryFrom 60 = .ok (.getfield 37, 3) := by decide +kernel
theorem dX6_tryFrom_63 : decode cX6_tryFrom 63 = .ok (.iload 5, 2) := by decide +kernel
theorem dX6_tryFrom_65 : decode cX6_tryFrom 65 = .ok (.iaload, 1) := by decide +kernel
theorem dX6_tryFrom_66 : decode cX6_tryFrom 66 = .ok (.istore 6, 2) := by decide +kernel
theorem dX6_tryFrom_68 : decode cX6_tryFrom 68 = .ok (.aload_n 0, 1) := by decide +kernel
theorem dX6_tryFrom_69 : decode cX6_tryFrom 69 = .ok (.getfield 34, 3) := by decide +kernel
theorem dX6_tryFrom_72 : decode cX6_tryFrom 72 = .ok (.iload_n 1, 1) := by decide +kernel
theorem dX6_tryFrom_73 : decode cX6_tryFrom 73 = .ok (.iload 6, 2) := by decide +kernel
theorem dX6_tryFrom_75 : decode cX6_tryFrom 75 = .ok (.iastore, 1) := by decide +kernel
theorem dX6_tryFrom_76 : decode cX6_tryFrom 76 = .ok (.aload_n 0, 1) := by decide +kernel
theorem dX6_tryFrom_77 : decode cX6_tryFrom 77 = .ok (.getfield 31, 3) := by decide +kernel
theorem dX6_tryFrom_80 : decode cX6_tryFrom 80 = .ok (.iload_n 1, 1) := by decide +kernel
theorem dX6_tryFrom_81 : decode cX6_tryFrom 81 = .ok (.aload_n 0, 1) := by decide +kernel
theorem dX6_tryFrom_82 : decode cX6_tryFrom 82 = .ok (.iload_n 1, 1) := by decide +kernel
theorem dX6_tryFrom_83 : decode cX6_tryFrom 83 = .ok (.iload 6, 2) := by decide +kernel
theorem dX6_tryFrom_85 : decode cX6_tryFrom 85 = .ok (.invokevirtual 84, 3) := by decide +kernel
theorem dX6_tryFrom_88 : decode cX6_tryFrom 88 = .ok (.iastore, 1) := by decide +kernel
theorem dX6_tryFrom_89 : decode cX6_tryFrom 89 = .ok (.aload_n 0, 1) := by decide +kernel
theorem dX6_tryFrom_90 : decode cX6_tryFrom 90 = .ok (.getfield 23, 3) := by decide +kernel
theorem dX6_tryFrom_93 : decode cX6_tryFrom 93 = .ok (.iload_n 1, 1) := by decide +kernel
theorem dX6_tryFrom_94 : decode cX6_tryFrom 94 = .ok (.aaload, 1) := by decide +kernel
theorem dX6_tryFrom_95 : decode cX6_tryFrom 95 = .ok (.astore 7, 2) := by decide +kernel
theorem dX6_tryFrom_97 : decode cX6_tryFrom 97 = .ok (.aload 7, 2) := by decide +kernel
theorem dX6_tryFrom_99 : decode cX6_tryFrom 99 = .ok (.ifnonnull 7, 3) := by decide +kernel
theorem dX6_tryFrom_102 : decode cX6_tryFrom 102 = .ok (.iload_n 2, 1) := by decide +kernel
theorem dX6_tryFrom_103 : decode cX6_tryFrom 103 = .ok (.goto 19, 3) := by decide +kernel
theorem dX6_tryFrom_106 : decode cX6_tryFrom 106 = .ok (.iload_n 2, 1) := by decide +kernel
theorem dX6_tryFrom_107 : decode cX6_tryFrom 107 = .ok (.aload_n 0, 1) := by decide +kernel
theorem dX6_tryFrom_108 : decode cX6_tryFrom 108 = .ok (.getfield 31, 3) := by decide +kernel
theorem dX6_tryFrom_111 : decode cX6_tryFrom 111 = .ok (.iload_n 1, 1) := by decide +kernel
theorem dX6_tryFrom_112 : decode cX6_tryFrom 112 = .ok (.iaload, 1) := by decide +kernel
theorem dX6_tryFrom_113 : decode cX6_tryFrom 113 = .ok (.aload 7, 2) := by decide +kernel
theorem dX6_tryFrom_115 : decode cX6_tryFrom 115 = .ok (.getfield 58, 3) := by decide +kernel
theorem dX6_tryFrom_118 : decode cX6_tryFrom 118 = .ok (.iadd, 1) := by decide +kernel
theorem dX6_tryFrom_119 : decode cX6_tryFrom 119 = .ok (.invokestatic 62, 3) := by decide +kernel
theorem dX6_tryFrom_122 : decode cX6_tryFrom 122 = .ok (.istore 8, 2) := by decide +kernel
theorem dX6_tryFrom_124 : decode cX6_tryFrom 124 = .ok (.aload 7, 2) := by decide +kernel
theorem dX6_tryFrom_126 : decode cX6_tryFrom 126 = .ok (.ifnonnull 7, 3) := by decide +kernel
theorem dX6_tryFrom_129 : decode cX6_tryFrom 129 = .ok (.iload_n 3, 1) := by decide +kernel
theorem dX6_tryFrom_130 : decode cX6_tryFrom 130 = .ok (.goto 19, 3) := by decide +kernel
theorem dX6_tryFrom_133 : decode cX6_tryFrom 133 = .ok (.iload_n 3, 1) := by decide +kernel
theorem dX6_tryFrom_134 : decode cX6_tryFrom 134 = .ok (.aload_n 0, 1) := by decide +kernel
theorem dX6_tryFrom_135 : decode cX6_tryFrom 135 = .ok (.getfield 31, 3) := by decide +kernel
theorem dX6_tryFrom_138 : decode cX6_tryFrom 138 = .ok (.iload_n 1, 1) := by decide +kernel
theorem dX6_tryFrom_139 : decode cX6_tryFrom 139 = .ok (.iaload, 1) := by decide +kernel
theorem dX6_tryFrom_140 : decode cX6_tryFrom 140 = .ok (.aload 7, 2) := by decide +kernel
theorem dX6_tryFrom_142 : decode cX6_tryFrom 142 = .ok (.getfield 58, 3) := by decide +kernel
theorem dX6_tryFrom_145 : decode cX6_tryFrom 145 = .ok (.iadd, 1) := by decide +kernel
theorem dX6_tryFrom_146 : decode cX6_tryFrom 146 = .ok (.invokestatic 68, 3) := by decide +kernel
theorem dX6_tryFrom_149 : decode cX6_tryFrom 149 = .ok (.istore 9, 2) := by decide +kernel
theorem dX6_tryFrom_151 : decode cX6_tryFrom 151 = .ok (.iload 4, 2) := by decide +kernel
theorem dX6_tryFrom_153 : decode cX6_tryFrom 153 = .ok (.aload_n 0, 1) := by decide +kernel
theorem dX6_tryFrom_154 : decode cX6_tryFrom 154 = .ok (.getfield 15, 3) := by decide +kernel
theorem dX6_tryFrom_157 : decode cX6_tryFrom 157 = .ok (.iload_n 1, 1) := by decide +kernel
theorem dX6_tryFrom_158 : decode cX6_tryFrom 158 = .ok (.iaload, 1) := by decide +kernel
theorem dX6_tryFrom_159 : decode cX6_tryFrom 159 = .ok (.iload 6, 2) := by decide +kernel
theorem dX6_tryFrom_161 : decode cX6_tryFrom 161 = .ok (.imul, 1) := by decide +kernel
theorem dX6_tryFrom_162 : decode cX6_tryFrom 162 = .ok (.iload 6, 2) := by decide +kernel
theorem dX6_tryFrom_164 : decode cX6_tryFrom 164 = .ok (.imul, 1) := by decide +kernel
theorem dX6_tryFrom_165 : decode cX6_tryFrom 165 = .ok (.iadd, 1) := by decide +kernel
theorem dX6_tryFrom_166 : decode cX6_tryFrom 166 = .ok (.istore 10, 2) := by decide +kernel
theorem dX6_tryFrom_168 : decode cX6_tryFrom 168 = .ok (.iload 8, 2) := by decide +kernel
theorem dX6_tryFrom_170 : decode cX6_tryFrom 170 = .ok (.iload 9, 2) := by decide +kernel
theorem dX6_tryFrom_172 : decode cX6_tryFrom 172 = .ok (.invokestatic 71, 3) := by decide +kernel
theorem dX6_tryFrom_175 : decode cX6_tryFrom 175 = .ok (.istore 11, 2) := by decide +kernel
theorem dX6_tryFrom_177 : decode cX6_tryFrom 177 = .ok (.iload 11, 2) := by decide +kernel
theorem dX6_tryFrom_179 : decode cX6_tryFrom 179 = .ok (.aload_n 0, 1) := by decide +kernel
theorem dX6_tryFrom_180 : decode cX6_tryFrom 180 = .ok (.getfield 43, 3) := by decide +kernel
theorem dX6_tryFrom_183 : decode cX6_tryFrom 183 = .ok (.if_icmp .lt 21, 3) := by decide +kernel
theorem dX6_tryFrom_186 : decode cX6_tryFrom 186 = .ok (.iload 11, 2) := by decide +kernel
theorem dX6_tryFrom_188 : decode cX6_tryFrom 188 = .ok (.aload_n 0, 1) := by decide +kernel
theorem dX6_tryFrom_189 : decode cX6_tryFrom 189 = .ok (.getfield 43, 3) := by decide +kernel
theorem dX6_tryFrom_192 : decode cX6_tryFrom 192 = .ok (.if_icmp .ne 25, 3) := by decide +kernel
theorem dX6_tryFrom_195 : decode cX6_tryFrom 195 = .ok (.iload 10, 2) := by decide +kernel
theorem dX6_tryFrom_197 : decode cX6_tryFrom 197 = .ok (.aload_n 0, 1) := by decide +kernel
theorem dX6_tryFrom_198 : decode cX6_tryFrom 198 = .ok (.getfield 46, 3) := by decide +kernel
theorem dX6_tryFrom_201 : decode cX6_tryFrom 201 = .ok (.if_icmp .ge 16, 3) := by decide +kernel
theorem dX6_tryFrom_204 : decode cX6_tryFrom 204 = .ok (.aload_n 0, 1) := by decide +kernel
theorem dX6_tryFrom_205 : decode cX6_tryFrom 205 = .ok (.iload_n 1, 1) := by decide +kernel
theorem dX6_tryFrom_206 : decode cX6_tryFrom 206 = .ok (.iconst 1, 1) := by decide +kernel
theorem dX6_tryFrom_207 : decode cX6_tryFrom 207 = .ok (.iadd, 1) := by decide +kernel
theorem dX6_tryFrom_208 : decode cX6_tryFrom 208 = .ok (.iload 8, 2) := by decide +kernel
theorem dX6_tryFrom_210 : decode cX6_tryFrom 210 = .ok (.iload 9, 2) := by decide +kernel
theorem dX6_tryFrom_212 : decode cX6_tryFrom 212 = .ok (.iload 10, 2) := by decide +kernel
theorem dX6_tryFrom_214 : decode cX6_tryFrom 214 = .ok (.invokevirtual 74, 3) := by decide +kernel
theorem dX6_tryFrom_217 : decode cX6_tryFrom 217 = .ok (.iinc 5 1, 3) := by decide +kernel
theorem dX6_tryFrom_220 : decode cX6_tryFrom 220 = .ok (.goto (-170), 3) := by decide +kernel
theorem dX6_tryFrom_223 : decode cX6_tryFrom 223 = .ok (.return_, 1) := by decide +kernel
theorem dX6_measure_0 : decode cX6_measure 0 = .ok (.iconst 0, 1) := by decide +kernel
theorem dX6_measure_1 : decode cX6_measure 1 = .ok (.istore_n 1, 1) := by decide +kernel
theorem dX6_measure_2 : decode cX6_measure 2 = .ok (.iload_n 1, 1) := by decide +kernel
theorem dX6_measure_3 : decode cX6_measure 3 = .ok (.aload_n 0, 1) := by decide +kernel
theorem dX6_measure_4 : decode cX6_measure 4 = .ok (.getfield 27, 3) := by decide +kernel
theorem dX6_measure_7 : decode cX6_measure 7 = .ok (.if_icmp .ge 26, 3) := by decide +kernel
theorem dX6_measure_10 : decode cX6_measure 10 = .ok (.aload_n 0, 1) := by decide +kernel
theorem dX6_measure_11 : decode cX6_measure 11 = .ok (.getfield 31, 3) := by decide +kernel
theorem dX6_measure_14 : decode cX6_measure 14 = .ok (.iload_n 1, 1) := by decide +kernel
theorem dX6_measure_15 : decode cX6_measure 15 = .ok (.aload_n 0, 1) := by decide +kernel
theorem dX6_measure_16 : decode cX6_measure 16 = .ok (.iload_n 1, 1) := by decide +kernel
theorem dX6_measure_17 : decode cX6_measure 17 = .ok (.aload_n 0, 1) := by decide +kernel
theorem dX6_measure_18 : decode cX6_measure 18 = .ok (.getfield 18, 3) := by decide +kernel
theorem dX6_measure_21 : decode cX6_measure 21 = .ok (.iload_n 1, 1) := by decide +kernel
theorem dX6_measure_22 : decode cX6_measure 22 = .ok (.iaload, 1) := by decide +kernel
theorem dX6_measure_23 : decode cX6_measure 23 = .ok (.invokevirtual 84, 3) := by decide +kernel
theorem dX6_measure_26 : decode cX6_measure 26 = .ok (.iastore, 1) := by decide +kernel
theorem dX6_measure_27 : decode cX6_measure 27 = .ok (.iinc 1 1, 3) := by decide +kernel
theorem dX6_measure_30 : decode cX6_measure 30 = .ok (.goto (-28), 3) := by decide +kernel
theorem dX6_measure_33 : decode cX6_measure 33 = .ok (.return_, 1) := by decide +kernel
theorem dX6_dragUpTo_0 : decode cX6_dragUpTo 0 = .ok (.iload_n 2, 1) := by decide +kernel
theorem dX6_dragUpTo_1 : decode cX6_dragUpTo 1 = .ok (.ifCond .le 22, 3) := by decide +kernel
theorem dX6_dragUpTo_4 : decode cX6_dragUpTo 4 = .ok (.aload_n 0, 1) := by decide +kernel
theorem dX6_dragUpTo_5 : decode cX6_dragUpTo 5 = .ok (.getfield 15, 3) := by decide +kernel
theorem dX6_dragUpTo_8 : decode cX6_dragUpTo 8 = .ok (.iload_n 1, 1) := by decide +kernel
theorem dX6_dragUpTo_9 : decode cX6_dragUpTo 9 = .ok (.iaload, 1) := by decide +kernel
theorem dX6_dragUpTo_10 : decode cX6_dragUpTo 10 = .ok (.sipush 5000, 3) := by decide +kernel
theorem dX6_dragUpTo_13 : decode cX6_dragUpTo 13 = .ok (.imul, 1) := by decide +kernel
theorem dX6_dragUpTo_14 : decode cX6_dragUpTo 14 = .ok (.iload_n 2, 1) := by decide +kernel
theorem dX6_dragUpTo_15 : decode cX6_dragUpTo 15 = .ok (.iload_n 2, 1) := by decide +kernel
theorem dX6_dragUpTo_16 : decode cX6_dragUpTo 16 = .ok (.imul, 1) := by decide +kernel
theorem dX6_dragUpTo_17 : decode cX6_dragUpTo 17 = .ok (.iload_n 2, 1) := by decide +kernel
theorem dX6_dragUpTo_18 : decode cX6_dragUpTo 18 = .ok (.imul, 1) := by decide +kernel
theorem dX6_dragUpTo_19 : decode cX6_dragUpTo 19 = .ok (.idiv, 1) := by decide +kernel
theorem dX6_dragUpTo_20 : decode cX6_dragUpTo 20 = .ok (.goto 4, 3) := by decide +kernel
theorem dX6_dragUpTo_23 : decode cX6_dragUpTo 23 = .ok (.iconst 0, 1) := by decide +kernel
theorem dX6_dragUpTo_24 : decode cX6_dragUpTo 24 = .ok (.istore_n 3, 1) := by decide +kernel
theorem dX6_dragUpTo_25 : decode cX6_dragUpTo 25 = .ok (.aload_n 0, 1) := by decide +kernel
theorem dX6_dragUpTo_26 : decode cX6_dragUpTo 26 = .ok (.getfield 9, 3) := by decide +kernel
theorem dX6_dragUpTo_29 : decode cX6_dragUpTo 29 = .ok (.iload_n 1, 1) := by decide +kernel
theorem dX6_dragUpTo_30 : decode cX6_dragUpTo 30 = .ok (.iaload, 1) := by decide +kernel
theorem dX6_dragUpTo_31 : decode cX6_dragUpTo 31 = .ok (.iload_n 1, 1) := by decide +kernel
theorem dX6_dragUpTo_32 : decode cX6_dragUpTo 32 = .ok (.invokestatic 87, 3) := by decide +kernel
theorem dX6_dragUpTo_35 : decode cX6_dragUpTo 35 = .ok (.ifCond .eq 19, 3) := by decide +kernel
theorem dX6_dragUpTo_38 : decode cX6_dragUpTo 38 = .ok (.aload_n 0, 1) := by decide +kernel
theorem dX6_dragUpTo_39 : decode cX6_dragUpTo 39 = .ok (.getfield 31, 3) := by decide +kernel
theorem dX6_dragUpTo_42 : decode cX6_dragUpTo 42 = .ok (.aload_n 0, 1) := by decide +kernel
theorem dX6_dragUpTo_43 : decode cX6_dragUpTo 43 = .ok (.getfield 9, 3) := by decide +kernel
theorem dX6_dragUpTo_46 : decode cX6_dragUpTo 46 = .ok (.iload_n 1, 1) := by decide +kernel
theorem dX6_dragUpTo_47 : decode cX6_dragUpTo 47 = .ok (.iaload, 1) := by decide +kernel
theorem dX6_dragUpTo_48 : decode cX6_dragUpTo 48 = .ok (.iaload, 1) := by decide +kernel
theorem dX6_dragUpTo_49 : decode cX6_dragUpTo 49 = .ok (.iload_n 3, 1) := by decide +kernel
theorem dX6_dragUpTo_50 : decode cX6_dragUpTo 50 = .ok (.iadd, 1) := by decide +kernel
theorem dX6_dragUpTo_51 : decode cX6_dragUpTo 51 = .ok (.goto 4, 3) := by decide +kernel
theorem dX6_dragUpTo_54 : decode cX6_dragUpTo 54 = .ok (.iload_n 3, 1) := by decide +kernel
theorem dX6_dragUpTo_55 : decode cX6_dragUpTo 55 = .ok (.ireturn, 1) := by decide +kernel
theorem dX6_between_0 : decode cX6_between 0 = .ok (.iload_n 0, 1) := by decide +kernel
theorem dX6_between_1 : decode cX6_between 1 = .ok (.iload_n 1, 1) := by decide +kernel
theorem dX6_between_2 : decode cX6_between 2 = .ok (.if_icmp .ge 9, 3) := by decide +kernel
theorem dX6_between_5 : decode cX6_between 5 = .ok (.iload_n 1, 1) := by decide +kernel
theorem dX6_between_6 : decode cX6_between 6 = .ok (.iload_n 0, 1) := by decide +kernel
theorem dX6_between_7 : decode cX6_between 7 = .ok (.isub, 1) := by decide +kernel
theorem dX6_between_8 : decode cX6_between 8 = .ok (.goto 4, 3) := by decide +kernel
theorem dX6_between_11 : decode cX6_between 11 = .ok (.iconst 0, 1) := by decide +kernel
theorem dX6_between_12 : decode cX6_between 12 = .ok (.ireturn, 1) := by decide +kernel
theorem dX7_init_0 : decode cX7_init 0 = .ok (.aload_n 0, 1) := by decide +kernel
theorem dX7_init_1 : decode cX7_init 1 = .ok (.invokespecial 1, 3) := by decide +kernel
theorem dX7_init_4 : decode cX7_init 4 = .ok (.aload_n 0, 1) := by decide +kernel
theorem dX7_init_5 : decode cX7_init 5 = .ok (.iload_n 1, 1) := by decide +kernel
theorem dX7_init_6 : decode cX7_init 6 = .ok (.putfield 7, 3) := by decide +kernel
theorem dX7_init_9 : decode cX7_init 9 = .ok (.aload_n 0, 1) := by decide +kernel
theorem dX7_init_10 : decode cX7_init 10 = .ok (.iload_n 2, 1) := by decide +kernel
theorem dX7_init_11 : decode cX7_init 11 = .ok (.iconst 0, 1) := by decide +kernel
theorem dX7_init_12 : decode cX7_init 12 = .ok (.invokestatic 13, 3) := by decide +kernel
theorem dX7_init_15 : decode cX7_init 15 = .ok (.newarray .long, 2) := by decide +kernel
theorem dX7_init_17 : decode cX7_init 17 = .ok (.putfield 19, 3) := by decide +kernel
theorem dX7_init_20 : decode cX7_init 20 = .ok (.return_, 1) := by decide +kernel
theorem dX7_covers_0 : decode cX7_covers 0 = .ok (.iload_n 1, 1) := by decide +kernel
theorem dX7_covers_1 : decode cX7_covers 1 = .ok (.ifCond .lt 31, 3) := by decide +kernel
theorem dX7_covers_4 : decode cX7_covers 4 = .ok (.iload_n 2, 1) := by decide +kernel
theorem dX7_covers_5 : decode cX7_covers 5 = .ok (.ifCond .lt 27, 3) := by decide +kernel
theorem dX7_covers_8 : decode cX7_covers 8 = .ok (.iload_n 2, 1) := by decide +kernel
theorem dX7_covers_9 : decode cX7_covers 9 = .ok (.aload_n 0, 1) := by decide +kernel
theorem dX7_covers_10 : decode cX7_covers 10 = .ok (.getfield 19, 3) := by decide +kernel
theorem dX7_covers_13 : decode cX7_covers 13 = .ok (.arraylength, 1) := by decide +kernel
theorem dX7_covers_14 : decode cX7_covers 14 = .ok (.if_icmp .gt 18, 3) := by decide +kernel
theorem dX7_covers_17 : decode cX7_covers 17 = .ok (.iload_n 1, 1) := by decide +kernel
theorem dX7_covers_18 : decode cX7_covers 18 = .ok (.aload_n 0, 1) := by decide +kernel
theorem dX7_covers_19 : decode cX7_covers 19 = .ok (.getfield 19, 3) := by decide +kernel
theorem dX7_covers_22 : decode cX7_covers 22 = .ok (.arraylength, 1) := by decide +kernel
theorem dX7_covers_23 : decode cX7_covers 23 = .ok (.iload_n 2, 1) := by decide +kernel
theorem dX7_covers_24 : decode cX7_covers 24 = .ok (.isub, 1) := by decide +kernel
theorem dX7_covers_25 : decode cX7_covers 25 = .ok (.if_icmp .gt 7, 3) := by decide +kernel
theorem dX7_covers_28 : decode cX7_covers 28 = .ok (.iconst 1, 1) := by decide +kernel
theorem dX7_covers_29 : decode cX7_covers 29 = .ok (.goto 4, 3) := by decide +kernel
theorem dX7_covers_32 : decode cX7_covers 32 = .ok (.iconst 0, 1) := by decide +kernel
theorem dX7_covers_33 : decode cX7_covers 33 = .ok (.ireturn, 1) := by decide +kernel
theorem dX7_put_0 : decode cX7_put 0 = .ok (.lload_n 2, 1) := by decide +kernel
theorem dX7_put_1 : decode cX7_put 1 = .ok (.lstore 4, 2) := by decide +kernel
theorem dX7_put_3 : decode cX7_put 3 = .ok (.aload_n 0, 1) := by decide +kernel
theorem dX7_put_4 : decode cX7_put 4 = .ok (.getfield 7, 3) := by decide +kernel
theorem dX7_put_7 : decode cX7_put 7 = .ok (.ifCond .ne 9, 3) := by decide +kernel
theorem dX7_put_10 : decode cX7_put 10 = .ok (.lload_n 2, 1) := by decide +kernel
theorem dX7_put_11 : decode cX7_put 11 = .ok (.l2i, 1) := by decide +kernel
theorem dX7_put_12 : decode cX7_put 12 = .ok (.i2b, 1) := by decide +kernel
theorem dX7_put_13 : decode cX7_put 13 = .ok (.i2l, 1) := by decide +kernel
theorem dX7_put_14 : decode cX7_put 14 = .ok (.lstore 4, 2) := by decide +kernel
theorem dX7_put_16 : decode cX7_put 16 = .ok (.aload_n 0, 1) := by decide +kernel
theorem dX7_put_17 : decode cX7_put 17 = .ok (.getfield 7, 3) := by decide +kernel
theorem dX7_put_20 : decode cX7_put 20 = .ok (.iconst 1, 1) := by decide +kernel
theorem dX7_put_21 : decode cX7_put 21 = .ok (.if_icmp .ne 8, 3) := by decide +kernel
theorem dX7_put_24 : decode cX7_put 24 = .ok (.lload_n 2, 1) := by decide +kernel
theorem dX7_put_25 : decode cX7_put 25 = .ok (.l2i, 1) := by decide +kernel
theorem dX7_put_26 : decode cX7_put 26 = .ok (.i2l, 1) := by decide +kernel
theorem dX7_put_27 : decode cX7_put 27 = .ok (.lstore 4, 2) := by decide +kernel
theorem dX7_put_29 : decode cX7_put 29 = .ok (.iload_n 1, 1) := by decide +kernel
theorem dX7_put_30 : decode cX7_put 30 = .ok (.aload_n 0, 1) := by decide +kernel
theorem dX7_put_31 : decode cX7_put 31 = .ok (.getfield 19, 3) := by decide +kernel
theorem dX7_put_34 : decode cX7_put 34 = .ok (.arraylength, 1) := by decide +kernel
theorem dX7_put_35 : decode cX7_put 35 = .ok (.invokestatic 23, 3) := by decide +kernel
theorem dX7_put_38 : decode cX7_put 38 = .ok (.ifCond .eq 11, 3) := by decide +kernel
theorem dX7_put_41 : decode cX7_put 41 = .ok (.aload_n 0, 1) := by decide +kernel
theorem dX7_put_42 : decode cX7_put 42 = .ok (.getfield 19, 3) := by decide +kernel
theorem dX7_put_45 : decode cX7_put 45 = .ok (.iload_n 1, 1) := by decide +kernel
theorem dX7_put_46 : decode cX7_put 46 = .ok (.lload 4, 2) := by decide +kernel
theorem dX7_put_48 : decode cX7_put 48 = .ok (.lastore, 1) := by decide +kernel
theorem dX7_put_49 : decode cX7_put 49 = .ok (.lload 4, 2) := by decide +kernel
theorem dX7_put_51 : decode cX7_put 51 = .ok (.lreturn, 1) := by decide +kernel
theorem dX7_allAmong_0 : decode cX7_allAmong 0 = .ok (.aload_n 0, 1) := by decide +kernel
theorem dX7_allAmong_1 : decode cX7_allAmong 1 = .ok (.iload_n 1, 1) := by decide +kernel
theorem dX7_allAmong_2 : decode cX7_allAmong 2 = .ok (.iload_n 2, 1) := by decide +kernel
theorem dX7_allAmong_3 : decode cX7_allAmong 3 = .ok (.invokevirtual 29, 3) := by decide +kernel
theorem dX7_allAmong_6 : decode cX7_allAmong 6 = .ok (.ifCond .ne 5, 3) := by decide +kernel
theorem dX7_allAmong_9 : decode cX7_allAmong 9 = .ok (.iconst 0, 1) := by decide +kernel
theorem dX7_allAmong_10 : decode cX7_allAmong 10 = .ok (.ireturn, 1) := by decide +kernel
theorem dX7_allAmong_11 : decode cX7_allAmong 11 = .ok (.iload_n 1, 1) := by decide +kernel
theorem dX7_allAmong_12 : decode cX7_allAmong 12 = .ok (.istore 4, 2) := by decide +kernel
theorem dX7_allAmong_14 : decode cX7_allAmong 14 = .ok (.iload 4, 2) := by decide +kernel
theorem dX7_allAmong_16 : decode cX7_allAmong 16 = .ok (.iload_n 1, 1) := by decide +kernel
theorem dX7_allAmong_17 : decode cX7_allAmong 17 = .ok (.iload_n 2, 1) := by decide +kernel
theorem dX7_allAmong_18 : decode cX7_allAmong 18 = .ok (.iadd, 1) := by decide +kernel
theorem dX7_allAmong_19 : decode cX7_allAmong 19 = .ok (.if_icmp .ge 36, 3) := by decide +kernel
theorem dX7_allAmong_22 : decode cX7_allAmong 22 = .ok (.aload_n 0, 1) := by decide +kernel
theorem dX7_allAmong_23 : decode cX7_allAmong 23 = .ok (.getfield 19, 3) := by decide +kernel
theorem dX7_allAmong_26 : decode cX7_allAmong 26 = .ok (.iload 4, 2) := by decide +kernel
theorem dX7_allAmong_28 : decode cX7_allAmong 28 = .ok (.laload, 1) := by decide +kernel
theorem dX7_allAmong_29 : decode cX7_allAmong 29 = .ok (.lconst 0, 1) := by decide +kernel
theorem dX7_allAmong_30 : decode cX7_allAmong 30 = .ok (.lcmp, 1) := by decide +kernel
theorem dX7_allAmong_31 : decode cX7_allAmong 31 = .ok (.ifCond .lt 16, 3) := by decide +kernel
theorem dX7_allAmong_34 : decode cX7_allAmong 34 = .ok (.aload_n 0, 1) := by decide +kernel
theorem dX7_allAmong_35 : decode cX7_allAmong 35 = .ok (.getfield 19, 3) := by decide +kernel
theorem dX7_allAmong_38 : decode cX7_allAmong 38 = .ok (.iload 4, 2) := by decide +kernel
theorem dX7_allAmong_40 : decode cX7_allAmong 40 = .ok (.laload, 1) := by decide +kernel
theorem dX7_allAmong_41 : decode cX7_allAmong 41 = .ok (.iload_n 3, 1) := by decide +kernel
theorem dX7_allAmong_42 : decode cX7_allAmong 42 = .ok (.i2l, 1) := by decide +kernel
theorem dX7_allAmong_43 : decode cX7_allAmong 43 = .ok (.lcmp, 1) := by decide +kernel
theorem dX7_allAmong_44 : decode cX7_allAmong 44 = .ok (.ifCond .le 5, 3) := by decide +kernel
theorem dX7_allAmong_47 : decode cX7_allAmong 47 = .ok (.iconst 0, 1) := by decide +kernel
theorem dX7_allAmong_48 : decode cX7_allAmong 48 = .ok (.ireturn, 1) := by decide +kernel
theorem dX7_allAmong_49 : decode cX7_allAmong 49 = .ok (.iinc 4 1, 3) := by decide +kernel
theorem dX7_allAmong_52 : decode cX7_allAmong 52 = .ok (.goto (-38), 3) := by decide +kernel
theorem dX7_allAmong_55 : decode cX7_allAmong 55 = .ok (.iconst 1, 1) := by decide +kernel
theorem dX7_allAmong_56 : decode cX7_allAmong 56 = .ok (.ireturn, 1) := by decide +kernel
theorem dX7_hasMoreThanZero_0 : decode cX7_hasMoreThanZero 0 = .ok (.aload_n 0, 1) := by decide +kernel
theorem dX7_hasMoreThanZero_1 : decode cX7_hasMoreThanZero 1 = .ok (.iload_n 1, 1) := by decide +kernel
theorem dX7_hasMoreThanZero_2 : decode cX7_hasMoreThanZero 2 = .ok (.iload_n 2, 1) := by decide +kernel
theorem dX7_hasMoreThanZero_3 : decode cX7_hasMoreThanZero 3 = .ok (.invokevirtual 29, 3) := by decide +kernel
theorem dX7_hasMoreThanZero_6 : decode cX7_hasMoreThanZero 6 = .ok (.ifCond .ne 5, 3) := by decide +kernel
theorem dX7_hasMoreThanZero_9 : decode cX7_hasMoreThanZero 9 = .ok (.iconst 0, 1) := by decide +kernel
theorem dX7_hasMoreThanZero_10 : decode cX7_hasMoreThanZero 10 = .ok (.ireturn, 1) := by decide +kernel
theorem dX7_hasMoreThanZero_11 : decode cX7_hasMoreThanZero 11 = .ok (.iload_n 1, 1) := by decide +kernel
theorem dX7_hasMoreThanZero_12 : decode cX7_hasMoreThanZero 12 = .ok (.istore_n 3, 1) := by decide +kernel
theorem dX7_hasMoreThanZero_13 : decode cX7_hasMoreThanZero 13 = .ok (.iload_n 3, 1) := by decide +kernel
theorem dX7_hasMoreThanZero_14 : decode cX7_hasMoreThanZero 14 = .ok (.iload_n 1, 1) := by decide +kernel
theorem dX7_hasMoreThanZero_15 : decode cX7_hasMoreThanZero 15 = .ok (.iload_n 2, 1) := by decide +kernel
theorem dX7_hasMoreThanZero_16 : decode cX7_hasMoreThanZero 16 = .ok (.iadd, 1) := by decide +kernel
theorem dX7_hasMoreThanZero_17 : decode cX7_hasMoreThanZero 17 = .ok (.if_icmp .ge 22, 3) := by decide +kernel
theorem dX7_hasMoreThanZero_20 : decode cX7_hasMoreThanZero 20 = .ok (.aload_n 0, 1) := by decide +kernel
theorem dX7_hasMoreThanZero_21 : decode cX7_hasMoreThanZero 21 = .ok (.getfield 19, 3) := by decide +kernel
theorem dX7_hasMoreThanZero_24 : decode cX7_hasMoreThanZero 24 = .ok (.iload_n 3, 1) := by decide +kernel
theorem dX7_hasMoreThanZero_25 : decode cX7_hasMoreThanZero 25 = .ok (.laload, 1) := by decide +kernel
theorem dX7_hasMoreThanZero_26 : decode cX7_hasMoreThanZero 26 = .ok (.lconst 0, 1) := by decide +kernel
theorem dX7_hasMoreThanZero_27 : decode cX7_hasMoreThanZero 27 = .ok (.lcmp, 1) := by decide +kernel
theorem dX7_hasMoreThanZero_28 : decode cX7_hasMoreThanZero 28 = .ok (.ifCond .le 5, 3) := by decide +kernel
theorem dX7_hasMoreThanZero_31 : decode cX7_hasMoreThanZero 31 = .ok (.iconst 1, 1) := by decide +kernel
theorem dX7_hasMoreThanZero_32 : decode cX7_hasMoreThanZero 32 = .ok (.ireturn, 1) := by decide +kernel
theorem dX7_hasMoreThanZero_33 : decode cX7_hasMoreThanZero 33 = .ok (.iinc 3 1, 3) := by decide +kernel
theorem dX7_hasMoreThanZero_36 : decode cX7_hasMoreThanZero 36 = .ok (.goto (-23), 3) := by decide +kernel
theorem dX7_hasMoreThanZero_39 : decode cX7_hasMoreThanZero 39 = .ok (.iconst 0, 1) := by decide +kernel
theorem dX7_hasMoreThanZero_40 : decode cX7_hasMoreThanZero 40 = .ok (.ireturn, 1) := by decide +kernel
theorem dX7_slice_0 : decode cX7_slice 0 = .ok (.aload_n 0, 1) := by decide +kernel
theorem dX7_slice_1 : decode cX7_slice 1 = .ok (.iload_n 1, 1) := by decide +kernel
theorem dX7_slice_2 : decode cX7_slice 2 = .ok (.iload_n 2, 1) := by decide +kernel
theorem dX7_slice_3 : decode cX7_slice 3 = .ok (.invokevirtual 29, 3) := by decide +kernel
theorem dX7_slice_6 : decode cX7_slice 6 = .ok (.ifCond .ne 7, 3) := by decide +kernel
theorem dX7_slice_9 : decode cX7_slice 9 = .ok (.iconst 0, 1) := by decide +kernel
theorem dX7_slice_10 : decode cX7_slice 10 = .ok (.newarray .int, 2) := by decide +kernel
theorem dX7_slice_12 : decode cX7_slice 12 = .ok (.areturn, 1) := by decide +kernel
theorem dX7_slice_13 : decode cX7_slice 13 = .ok (.iload_n 2, 1) := by decide +kernel
theorem dX7_slice_14 : decode cX7_slice 14 = .ok (.newarray .int, 2) := by decide +kernel
theorem dX7_slice_16 : decode cX7_slice 16 = .ok (.astore_n 3, 1) := by decide +kernel
theorem dX7_slice_17 : decode cX7_slice 17 = .ok (.iconst 0, 1) := by decide +kernel
theorem dX7_slice_18 : decode cX7_slice 18 = .ok (.istore 4, 2) := by decide +kernel
theorem dX7_slice_20 : decode cX7_slice 20 = .ok (.iload 4, 2) := by decide +kernel
theorem dX7_slice_22 : decode cX7_slice 22 = .ok (.iload_n 2, 1) := by decide +kernel
theorem dX7_slice_23 : decode cX7_slice 23 = .ok (.if_icmp .ge 23, 3) := by decide +kernel
theorem dX7_slice_26 : decode cX7_slice 26 = .ok (.aload_n 3, 1) := by decide +kernel
theorem dX7_slice_27 : decode cX7_slice 27 = .ok (.iload 4, 2) := by decide +kernel
theorem dX7_slice_29 : decode cX7_slice 29 = .ok (.aload_n 0, 1) := by decide +kernel
theorem dX7_slice_30 : decode cX7_slice 30 = .ok (.getfield 19, 3) := by decide +kernel
theorem dX7_slice_33 : decode cX7_slice 33 = .ok (.iload_n 1, 1) := by decide +kernel
theorem dX7_slice_34 : decode cX7_slice 34 = .ok (.iload 4, 2) := by decide +kernel
theorem dX7_slice_36 : decode cX7_slice 36 = .ok (.iadd, 1) := by decide +kernel
theorem dX7_slice_37 : decode cX7_slice 37 = .ok (.laload, 1) := by decide +kernel
theorem dX7_slice_38 : decode cX7_slice 38 = .ok (.l2i, 1) := by decide +kernel
theorem dX7_slice_39 : decode cX7_slice 39 = .ok (.iastore, 1) := by decide +kernel
theorem dX7_slice_40 : decode cX7_slice 40 = .ok (.iinc 4 1, 3) := by decide +kernel
theorem dX7_slice_43 : decode cX7_slice 43 = .ok (.goto (-23), 3) := by decide +kernel
theorem dX7_slice_46 : decode cX7_slice 46 = .ok (.aload_n 3, 1) := by decide +kernel
theorem dX7_slice_47 : decode cX7_slice 47 = .ok (.areturn, 1) := by decide +kernel
theorem dX8_init_0 : decode cX8_init 0 = .ok (.aload_n 0, 1) := by decide +kernel
theorem dX8_init_1 : decode cX8_init 1 = .ok (.invokespecial 1, 3) := by decide +kernel
theorem dX8_init_4 : decode cX8_init 4 = .ok (.return_, 1) := by decide +kernel
theorem dX8_isOf_0 : decode cX8_isOf 0 = .ok (.iload_n 1, 1) := by decide +kernel
theorem dX8_isOf_1 : decode cX8_isOf 1 = .ok (.ifCond .ne 7, 3) := by decide +kernel
theorem dX8_isOf_4 : decode cX8_isOf 4 = .ok (.iconst 1, 1) := by decide +kernel
theorem dX8_isOf_5 : decode cX8_isOf 5 = .ok (.goto 4, 3) := by decide +kernel
theorem dX8_isOf_8 : decode cX8_isOf 8 = .ok (.iconst 0, 1) := by decide +kernel
theorem dX8_isOf_9 : decode cX8_isOf 9 = .ok (.ireturn, 1) := by decide +kernel
theorem dX8_weigh_0 : decode cX8_weigh 0 = .ok (.aload_n 1, 1) := by decide +kernel
theorem dX8_weigh_1 : decode cX8_weigh 1 = .ok (.bipush 10, 2) := by decide +kernel
theorem dX8_weigh_3 : decode cX8_weigh 3 = .ok (.invokevirtual 7, 3) := by decide +kernel
theorem dX8_weigh_6 : decode cX8_weigh 6 = .ok (.iconst 1, 1) := by decide +kernel
theorem dX8_weigh_7 : decode cX8_weigh 7 = .ok (.ireturn, 1) := by decide +kernel
theorem dX8_mark_0 : decode cX8_mark 0 = .ok (.aload_n 1, 1) := by decide +kernel
theorem dX8_mark_1 : decode cX8_mark 1 = .ok (.bipush 20, 2) := by decide +kernel
theorem dX8_mark_3 : decode cX8_mark 3 = .ok (.invokevirtual 7, 3) := by decide +kernel
theorem dX8_mark_6 : decode cX8_mark 6 = .ok (.aload_n 0, 1) := by decide +kernel
theorem dX8_mark_7 : decode cX8_mark 7 = .ok (.aload_n 1, 1) := by decide +kernel
theorem dX8_mark_8 : decode cX8_mark 8 = .ok (.invokevirtual 13, 3) := by decide +kernel
theorem dX8_mark_11 : decode cX8_mark 11 = .ok (.iconst 5, 1) := by decide +kernel
theorem dX8_mark_12 : decode cX8_mark 12 = .ok (.iadd, 1) := by decide +kernel
theorem dX8_mark_13 : decode cX8_mark 13 = .ok (.ireturn, 1) := by decide +kernel
theorem dX9_init_0 : decode cX9_init 0 = .ok (.aload_n 0, 1) := by decide +kernel
theorem dX9_init_1 : decode cX9_init 1 = .ok (.invokespecial 3, 3) := by decide +kernel
theorem dX9_init_4 : decode cX9_init 4 = .ok (.aload_n 0, 1) := by decide +kernel
theorem dX9_init_5 : decode cX9_init 5 = .ok (.bipush 16, 2) := by decide +kernel
theorem dX9_init_7 : decode cX9_init 7 = .ok (.newarray .int, 2) := by decide +kernel
theorem dX9_init_9 : decode cX9_init 9 = .ok (.putfield 9, 3) := by decide +kernel
theorem dX9_init_12 : decode cX9_init 12 = .ok (.aload_n 0, 1) := by decide +kernel
theorem dX9_init_13 : decode cX9_init 13 = .ok (.iconst 0, 1) := by decide +kernel
theorem dX9_init_14 : decode cX9_init 14 = .ok (.putfield 15, 3) := by decide +kernel
theorem dX9_init_17 : decode cX9_init 17 = .ok (.return_, 1) := by decide +kernel
theorem dX9_wipe_0 : decode cX9_wipe 0 = .ok (.aload_n 0, 1) := by decide +kernel
theorem dX9_wipe_1 : decode cX9_wipe 1 = .ok (.iconst 0, 1) := by decide +kernel
theorem dX9_wipe_2 : decode cX9_wipe 2 = .ok (.putfield 15, 3) := by decide +kernel
theorem dX9_wipe_5 : decode cX9_wipe 5 = .ok (.return_, 1) := by decide +kernel
theorem dX9_leave_0 : decode cX9_leave 0 = .ok (.aload_n 0, 1) := by decide +kernel
theorem dX9_leave_1 : decode cX9_leave 1 = .ok (.getfield 15, 3) := by decide +kernel
theorem dX9_leave_4 : decode cX9_leave 4 = .ok (.aload_n 0, 1) := by decide +kernel
theorem dX9_leave_5 : decode cX9_leave 5 = .ok (.getfield 9, 3) := by decide +kernel
theorem dX9_leave_8 : decode cX9_leave 8 = .ok (.arraylength, 1) := by decide +kernel
theorem dX9_leave_9 : decode cX9_leave 9 = .ok (.if_icmp .ge 23, 3) := by decide +kernel
theorem dX9_leave_12 : decode cX9_leave 12 = .ok (.aload_n 0, 1) := by decide +kernel
theorem dX9_leave_13 : decode cX9_leave 13 = .ok (.getfield 9, 3) := by decide +kernel
theorem dX9_leave_16 : decode cX9_leave 16 = .ok (.aload_n 0, 1) := by decide +kernel
theorem dX9_leave_17 : decode cX9_leave 17 = .ok (.getfield 15, 3) := by decide +kernel
theorem dX9_leave_20 : decode cX9_leave 20 = .ok (.iload_n 1, 1) := by decide +kernel
theorem dX9_leave_21 : decode cX9_leave 21 = .ok (.iastore, 1) := by decide +kernel
theorem dX9_leave_22 : decode cX9_leave 22 = .ok (.aload_n 0, 1) := by decide +kernel
theorem dX9_leave_23 : decode cX9_leave 23 = .ok (.dup, 1) := by decide +kernel
theorem dX9_leave_24 : decode cX9_leave 24 = .ok (.getfield 15, 3) := by decide +kernel
theorem dX9_leave_27 : decode cX9_leave 27 = .ok (.iconst 1, 1) := by decide +kernel
theorem dX9_leave_28 : decode cX9_leave 28 = .ok (.iadd, 1) := by decide +kernel
theorem dX9_leave_29 : decode cX9_leave 29 = .ok (.putfield 15, 3) := by decide +kernel
theorem dX9_leave_32 : decode cX9_leave 32 = .ok (.return_, 1) := by decide +kernel
theorem dX9_number_0 : decode cX9_number 0 = .ok (.iload_n 1, 1) := by decide +kernel
theorem dX9_number_1 : decode cX9_number 1 = .ok (.aload_n 0, 1) := by decide +kernel
theorem dX9_number_2 : decode cX9_number 2 = .ok (.getfield 15, 3) := by decide +kernel
theorem dX9_number_5 : decode cX9_number 5 = .ok (.invokestatic 19, 3) := by decide +kernel
theorem dX9_number_8 : decode cX9_number 8 = .ok (.ifCond .eq 12, 3) := by decide +kernel
theorem dX9_number_11 : decode cX9_number 11 = .ok (.aload_n 0, 1) := by decide +kernel
theorem dX9_number_12 : decode cX9_number 12 = .ok (.getfield 9, 3) := by decide +kernel
theorem dX9_number_15 : decode cX9_number 15 = .ok (.iload_n 1, 1) := by decide +kernel
theorem dX9_number_16 : decode cX9_number 16 = .ok (.iaload, 1) := by decide +kernel
theorem dX9_number_17 : decode cX9_number 17 = .ok (.goto 5, 3) := by decide +kernel
theorem dX9_number_20 : decode cX9_number 20 = .ok (.ldc 23, 2) := by decide +kernel
theorem dX9_number_22 : decode cX9_number 22 = .ok (.ireturn, 1) := by decide +kernel
theorem dJ6_bitCount_0f7a4_0 : decode cJ6_bitCount_0f7a4 0 = .ok (.iload_n 0, 1) := by decide +kernel
theorem dJ6_bitCount_0f7a4_1 : decode cJ6_bitCount_0f7a4 1 = .ok (.iload_n 0, 1) := by decide +kernel
theorem dJ6_bitCount_0f7a4_2 : decode cJ6_bitCount_0f7a4 2 = .ok (.iconst 1, 1) := by decide +kernel
theorem dJ6_bitCount_0f7a4_3 : decode cJ6_bitCount_0f7a4 3 = .ok (.iushr, 1) := by decide +kernel
theorem dJ6_bitCount_0f7a4_4 : decode cJ6_bitCount_0f7a4 4 = .ok (.ldc_w 265, 3) := by decide +kernel
theorem dJ6_bitCount_0f7a4_7 : decode cJ6_bitCount_0f7a4 7 = .ok (.iand, 1) := by decide +kernel
theorem dJ6_bitCount_0f7a4_8 : decode cJ6_bitCount_0f7a4 8 = .ok (.isub, 1) := by decide +kernel
theorem dJ6_bitCount_0f7a4_9 : decode cJ6_bitCount_0f7a4 9 = .ok (.istore_n 0, 1) := by decide +kernel
theorem dJ6_bitCount_0f7a4_10 : decode cJ6_bitCount_0f7a4 10 = .ok (.iload_n 0, 1) := by decide +kernel
theorem dJ6_bitCount_0f7a4_11 : decode cJ6_bitCount_0f7a4 11 = .ok (.ldc_w 266, 3) := by decide +kernel
theorem dJ6_bitCount_0f7a4_14 : decode cJ6_bitCount_0f7a4 14 = .ok (.iand, 1) := by decide +kernel
theorem dJ6_bitCount_0f7a4_15 : decode cJ6_bitCount_0f7a4 15 = .ok (.iload_n 0, 1) := by decide +kernel
theorem dJ6_bitCount_0f7a4_16 : decode cJ6_bitCount_0f7a4 16 = .ok (.iconst 2, 1) := by decide +kernel
theorem dJ6_bitCount_0f7a4_17 : decode cJ6_bitCount_0f7a4 17 = .ok (.iushr, 1) := by decide +kernel
theorem dJ6_bitCount_0f7a4_18 : decode cJ6_bitCount_0f7a4 18 = .ok (.ldc_w 266, 3) := by decide +kernel
theorem dJ6_bitCount_0f7a4_21 : decode cJ6_bitCount_0f7a4 21 = .ok (.iand, 1) := by decide +kernel
theorem dJ6_bitCount_0f7a4_22 : decode cJ6_bitCount_0f7a4 22 = .ok (.iadd, 1) := by decide +kernel
theorem dJ6_bitCount_0f7a4_23 : decode cJ6_bitCount_0f7a4 23 = .ok (.istore_n 0, 1) := by decide +kernel
theorem dJ6_bitCount_0f7a4_24 : decode cJ6_bitCount_0f7a4 24 = .ok (.iload_n 0, 1) := by decide +kernel
theorem dJ6_bitCount_0f7a4_25 : decode cJ6_bitCount_0f7a4 25 = .ok (.iload_n 0, 1) := by decide +kernel
theorem dJ6_bitCount_0f7a4_26 : decode cJ6_bitCount_0f7a4 26 = .ok (.iconst 4, 1) := by decide +kernel
theorem dJ6_bitCount_0f7a4_27 : decode cJ6_bitCount_0f7a4 27 = .ok (.iushr, 1) := by decide +kernel
theorem dJ6_bitCount_0f7a4_28 : decode cJ6_bitCount_0f7a4 28 = .ok (.iadd, 1) := by decide +kernel
theorem dJ6_bitCount_0f7a4_29 : decode cJ6_bitCount_0f7a4 29 = .ok (.ldc_w 267, 3) := by decide +kernel
theorem dJ6_bitCount_0f7a4_32 : decode cJ6_bitCount_0f7a4 32 = .ok (.iand, 1) := by decide +kernel
theorem dJ6_bitCount_0f7a4_33 : decode cJ6_bitCount_0f7a4 33 = .ok (.istore_n 0, 1) := by decide +kernel
theorem dJ6_bitCount_0f7a4_34 : decode cJ6_bitCount_0f7a4 34 = .ok (.iload_n 0, 1) := by decide +kernel
theorem dJ6_bitCount_0f7a4_35 : decode cJ6_bitCount_0f7a4 35 = .ok (.iload_n 0, 1) := by decide +kernel
theorem dJ6_bitCount_0f7a4_36 : decode cJ6_bitCount_0f7a4 36 = .ok (.bipush 8, 2) := by decide +kernel
theorem dJ6_bitCount_0f7a4_38 : decode cJ6_bitCount_0f7a4 38 = .ok (.iushr, 1) := by decide +kernel
theorem dJ6_bitCount_0f7a4_39 : decode cJ6_bitCount_0f7a4 39 = .ok (.iadd, 1) := by decide +kernel
theorem dJ6_bitCount_0f7a4_40 : decode cJ6_bitCount_0f7a4 40 = .ok (.istore_n 0, 1) := by decide +kernel
theorem dJ6_bitCount_0f7a4_41 : decode cJ6_bitCount_0f7a4 41 = .ok (.iload_n 0, 1) := by decide +kernel
theorem dJ6_bitCount_0f7a4_42 : decode cJ6_bitCount_0f7a4 42 = .ok (.iload_n 0, 1) := by decide +kernel
theorem dJ6_bitCount_0f7a4_43 : decode cJ6_bitCount_0f7a4 43 = .ok (.bipush 16, 2) := by decide +kernel
theorem dJ6_bitCount_0f7a4_45 : decode cJ6_bitCount_0f7a4 45 = .ok (.iushr, 1) := by decide +kernel
theorem dJ6_bitCount_0f7a4_46 : decode cJ6_bitCount_0f7a4 46 = .ok (.iadd, 1) := by decide +kernel
theorem dJ6_bitCount_0f7a4_47 : decode cJ6_bitCount_0f7a4 47 = .ok (.istore_n 0, 1) := by decide +kernel
theorem dJ6_bitCount_0f7a4_48 : decode cJ6_bitCount_0f7a4 48 = .ok (.iload_n 0, 1) := by decide +kernel
theorem dJ6_bitCount_0f7a4_49 : decode cJ6_bitCount_0f7a4 49 = .ok (.bipush 63, 2) := by decide +kernel
theorem dJ6_bitCount_0f7a4_51 : decode cJ6_bitCount_0f7a4 51 = .ok (.iand, 1) := by decide +kernel
theorem dJ6_bitCount_0f7a4_52 : decode cJ6_bitCount_0f7a4 52 = .ok (.ireturn, 1) := by decide +kernel
theorem dJ9_max_7cf53_0 : decode cJ9_max_7cf53 0 = .ok (.iload_n 0, 1) := by decide +kernel
theorem dJ9_max_7cf53_1 : decode cJ9_max_7cf53 1 = .ok (.iload_n 1, 1) := by decide +kernel
theorem dJ9_max_7cf53_2 : decode cJ9_max_7cf53 2 = .ok (.if_icmp .lt 7, 3) := by decide +kernel
theorem dJ9_max_7cf53_5 : decode cJ9_max_7cf53 5 = .ok (.iload_n 0, 1) := by decide +kernel
theorem dJ9_max_7cf53_6 : decode cJ9_max_7cf53 6 = .ok (.goto 4, 3) := by decide +kernel
theorem dJ9_max_7cf53_9 : decode cJ9_max_7cf53 9 = .ok (.iload_n 1, 1) := by decide +kernel
theorem dJ9_max_7cf53_10 : decode cJ9_max_7cf53 10 = .ok (.ireturn, 1) := by decide +kernel
theorem dJ9_min_7cf53_0 : decode cJ9_min_7cf53 0 = .ok (.iload_n 0, 1) := by decide +kernel
theorem dJ9_min_7cf53_1 : decode cJ9_min_7cf53 1 = .ok (.iload_n 1, 1) := by decide +kernel
theorem dJ9_min_7cf53_2 : decode cJ9_min_7cf53 2 = .ok (.if_icmp .gt 7, 3) := by decide +kernel
theorem dJ9_min_7cf53_5 : decode cJ9_min_7cf53 5 = .ok (.iload_n 0, 1) := by decide +kernel
theorem dJ9_min_7cf53_6 : decode cJ9_min_7cf53 6 = .ok (.goto 4, 3) := by decide +kernel
theorem dJ9_min_7cf53_9 : decode cJ9_min_7cf53 9 = .ok (.iload_n 1, 1) := by decide +kernel
theorem dJ9_min_7cf53_10 : decode cJ9_min_7cf53 10 = .ok (.ireturn, 1) := by decide +kernel
