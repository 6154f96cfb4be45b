theorem nd_S_init_0 : decode nb_S_init 0 = .ok (.aload_n 0, 1) := by decide +kernel
theorem nd_S_init_1 : decode nb_S_init 1 = .ok (.invokespecial 3, 3) := by decide +kernel
theorem nd_S_init_4 : decode nb_S_init 4 = .ok (.aload_n 0, 1) := by decide +kernel
theorem nd_S_init_5 : decode nb_S_init 5 = .ok (.invokestatic 9, 3) := by decide +kernel
theorem nd_S_init_8 : decode nb_S_init 8 = .ok (.putfield 13, 3) := by decide +kernel
theorem nd_S_init_11 : decode nb_S_init 11 = .ok (.aload_n 0, 1) := by decide +kernel
theorem nd_S_init_12 : decode nb_S_init 12 = .ok (.bipush 16, 2) := by decide +kernel
theorem nd_S_init_14 : decode nb_S_init 14 = .ok (.anewarray 17, 3) := by decide +kernel
theorem nd_S_init_17 : decode nb_S_init 17 = .ok (.putfield 19, 3) := by decide +kernel
theorem nd_S_init_20 : decode nb_S_init 20 = .ok (.iconst 0, 1) := by decide +kernel
theorem nd_S_init_21 : decode nb_S_init 21 = .ok (.istore_n 1, 1) := by decide +kernel
theorem nd_S_init_22 : decode nb_S_init 22 = .ok (.iload_n 1, 1) := by decide +kernel
theorem nd_S_init_23 : decode nb_S_init 23 = .ok (.bipush 16, 2) := by decide +kernel
theorem nd_S_init_25 : decode nb_S_init 25 = .ok (.if_icmp .ge 19, 3) := by decide +kernel
theorem nd_S_init_28 : decode nb_S_init 28 = .ok (.aload_n 0, 1) := by decide +kernel
theorem nd_S_init_29 : decode nb_S_init 29 = .ok (.getfield 19, 3) := by decide +kernel
theorem nd_S_init_32 : decode nb_S_init 32 = .ok (.iload_n 1, 1) := by decide +kernel
theorem nd_S_init_33 : decode nb_S_init 33 = .ok (.aload_n 0, 1) := by decide +kernel
theorem nd_S_init_34 : decode nb_S_init 34 = .ok (.getfield 13, 3) := by decide +kernel
theorem nd_S_init_37 : decode nb_S_init 37 = .ok (.aastore, 1) := by decide +kernel
theorem nd_S_init_38 : decode nb_S_init 38 = .ok (.iinc 1 1, 3) := by decide +kernel
theorem nd_S_init_41 : decode nb_S_init 41 = .ok (.goto (-19), 3) := by decide +kernel
theorem nd_S_init_44 : decode nb_S_init 44 = .ok (.aload_n 0, 1) := by decide +kernel
theorem nd_S_init_45 : decode nb_S_init 45 = .ok (.aconst_null, 1) := by decide +kernel
theorem nd_S_init_46 : decode nb_S_init 46 = .ok (.putfield 23, 3) := by decide +kernel
theorem nd_S_init_49 : decode nb_S_init 49 = .ok (.aload_n 0, 1) := by decide +kernel
theorem nd_S_init_50 : decode nb_S_init 50 = .ok (.iconst 0, 1) := by decide +kernel
theorem nd_S_init_51 : decode nb_S_init 51 = .ok (.putfield 26, 3) := by decide +kernel
theorem nd_S_init_54 : decode nb_S_init 54 = .ok (.return_, 1) := by decide +kernel
theorem nd_S_blankSequence_0 : decode nb_S_blankSequence 0 = .ok (.new 122, 3) := by decide +kernel
theorem nd_S_blankSequence_3 : decode nb_S_blankSequence 3 = .ok (.dup, 1) := by decide +kernel
theorem nd_S_blankSequence_4 : decode nb_S_blankSequence 4 = .ok (.iconst 0, 1) := by decide +kernel
theorem nd_S_blankSequence_5 : decode nb_S_blankSequence 5 = .ok (.bipush 32, 2) := by decide +kernel
theorem nd_S_blankSequence_7 : decode nb_S_blankSequence 7 = .ok (.newarray .long, 2) := by decide +kernel
theorem nd_S_blankSequence_9 : decode nb_S_blankSequence 9 = .ok (.invokespecial 124, 3) := by decide +kernel
theorem nd_S_blankSequence_12 : decode nb_S_blankSequence 12 = .ok (.astore_n 0, 1) := by decide +kernel
theorem nd_S_blankSequence_13 : decode nb_S_blankSequence 13 = .ok (.bipush 32, 2) := by decide +kernel
theorem nd_S_blankSequence_15 : decode nb_S_blankSequence 15 = .ok (.anewarray 122, 3) := by decide +kernel
theorem nd_S_blankSequence_18 : decode nb_S_blankSequence 18 = .ok (.astore_n 1, 1) := by decide +kernel
theorem nd_S_blankSequence_19 : decode nb_S_blankSequence 19 = .ok (.iconst 0, 1) := by decide +kernel
theorem nd_S_blankSequence_20 : decode nb_S_blankSequence 20 = .ok (.istore_n 2, 1) := by decide +kernel
theorem nd_S_blankSequence_21 : decode nb_S_blankSequence 21 = .ok (.iload_n 2, 1) := by decide +kernel
theorem nd_S_blankSequence_22 : decode nb_S_blankSequence 22 = .ok (.bipush 32, 2) := by decide +kernel
theorem nd_S_blankSequence_24 : decode nb_S_blankSequence 24 = .ok (.if_icmp .ge 13, 3) := by decide +kernel
theorem nd_S_blankSequence_27 : decode nb_S_blankSequence 27 = .ok (.aload_n 1, 1) := by decide +kernel
theorem nd_S_blankSequence_28 : decode nb_S_blankSequence 28 = .ok (.iload_n 2, 1) := by decide +kernel
theorem nd_S_blankSequence_29 : decode nb_S_blankSequence 29 = .ok (.aload_n 0, 1) := by decide +kernel
theorem nd_S_blankSequence_30 : decode nb_S_blankSequence 30 = .ok (.aastore, 1) := by decide +kernel
theorem nd_S_blankSequence_31 : decode nb_S_blankSequence 31 = .ok (.iinc 2 1, 3) := by decide +kernel
theorem nd_S_blankSequence_34 : decode nb_S_blankSequence 34 = .ok (.goto (-13), 3) := by decide +kernel
theorem nd_S_blankSequence_37 : decode nb_S_blankSequence 37 = .ok (.new 127, 3) := by decide +kernel
theorem nd_S_blankSequence_40 : decode nb_S_blankSequence 40 = .ok (.dup, 1) := by decide +kernel
theorem nd_S_blankSequence_41 : decode nb_S_blankSequence 41 = .ok (.iconst 0, 1) := by decide +kernel
theorem nd_S_blankSequence_42 : decode nb_S_blankSequence 42 = .ok (.aload_n 1, 1) := by decide +kernel
theorem nd_S_blankSequence_43 : decode nb_S_blankSequence 43 = .ok (.invokespecial 129, 3) := by decide +kernel
theorem nd_S_blankSequence_46 : decode nb_S_blankSequence 46 = .ok (.astore_n 2, 1) := by decide +kernel
theorem nd_S_blankSequence_47 : decode nb_S_blankSequence 47 = .ok (.bipush 32, 2) := by decide +kernel
theorem nd_S_blankSequence_49 : decode nb_S_blankSequence 49 = .ok (.anewarray 127, 3) := by decide +kernel
theorem nd_S_blankSequence_52 : decode nb_S_blankSequence 52 = .ok (.astore_n 3, 1) := by decide +kernel
theorem nd_S_blankSequence_53 : decode nb_S_blankSequence 53 = .ok (.iconst 0, 1) := by decide +kernel
theorem nd_S_blankSequence_54 : decode nb_S_blankSequence 54 = .ok (.istore 4, 2) := by decide +kernel
theorem nd_S_blankSequence_56 : decode nb_S_blankSequence 56 = .ok (.iload 4, 2) := by decide +kernel
theorem nd_S_blankSequence_58 : decode nb_S_blankSequence 58 = .ok (.bipush 32, 2) := by decide +kernel
theorem nd_S_blankSequence_60 : decode nb_S_blankSequence 60 = .ok (.if_icmp .ge 14, 3) := by decide +kernel
theorem nd_S_blankSequence_63 : decode nb_S_blankSequence 63 = .ok (.aload_n 3, 1) := by decide +kernel
theorem nd_S_blankSequence_64 : decode nb_S_blankSequence 64 = .ok (.iload 4, 2) := by decide +kernel
theorem nd_S_blankSequence_66 : decode nb_S_blankSequence 66 = .ok (.aload_n 2, 1) := by decide +kernel
theorem nd_S_blankSequence_67 : decode nb_S_blankSequence 67 = .ok (.aastore, 1) := by decide +kernel
theorem nd_S_blankSequence_68 : decode nb_S_blankSequence 68 = .ok (.iinc 4 1, 3) := by decide +kernel
theorem nd_S_blankSequence_71 : decode nb_S_blankSequence 71 = .ok (.goto (-15), 3) := by decide +kernel
theorem nd_S_blankSequence_74 : decode nb_S_blankSequence 74 = .ok (.new 17, 3) := by decide +kernel
theorem nd_S_blankSequence_77 : decode nb_S_blankSequence 77 = .ok (.dup, 1) := by decide +kernel
theorem nd_S_blankSequence_78 : decode nb_S_blankSequence 78 = .ok (.iconst 0, 1) := by decide +kernel
theorem nd_S_blankSequence_79 : decode nb_S_blankSequence 79 = .ok (.new 132, 3) := by decide +kernel
theorem nd_S_blankSequence_82 : decode nb_S_blankSequence 82 = .ok (.dup, 1) := by decide +kernel
theorem nd_S_blankSequence_83 : decode nb_S_blankSequence 83 = .ok (.iconst 0, 1) := by decide +kernel
theorem nd_S_blankSequence_84 : decode nb_S_blankSequence 84 = .ok (.aload_n 3, 1) := by decide +kernel
theorem nd_S_blankSequence_85 : decode nb_S_blankSequence 85 = .ok (.invokespecial 134, 3) := by decide +kernel
theorem nd_S_blankSequence_88 : decode nb_S_blankSequence 88 = .ok (.aload_n 0, 1) := by decide +kernel
theorem nd_S_blankSequence_89 : decode nb_S_blankSequence 89 = .ok (.iconst 0, 1) := by decide +kernel
theorem nd_S_blankSequence_90 : decode nb_S_blankSequence 90 = .ok (.iconst 0, 1) := by decide +kernel
theorem nd_S_blankSequence_91 : decode nb_S_blankSequence 91 = .ok (.invokespecial 105, 3) := by decide +kernel
theorem nd_S_blankSequence_94 : decode nb_S_blankSequence 94 = .ok (.areturn, 1) := by decide +kernel
theorem nd_F_init_0 : decode nb_F_init 0 = .ok (.aload_n 0, 1) := by decide +kernel
theorem nd_F_init_1 : decode nb_F_init 1 = .ok (.invokespecial 1, 3) := by decide +kernel
theorem nd_F_init_4 : decode nb_F_init 4 = .ok (.aload_n 0, 1) := by decide +kernel
theorem nd_F_init_5 : decode nb_F_init 5 = .ok (.iload_n 1, 1) := by decide +kernel
theorem nd_F_init_6 : decode nb_F_init 6 = .ok (.putfield 7, 3) := by decide +kernel
theorem nd_F_init_9 : decode nb_F_init 9 = .ok (.aload_n 0, 1) := by decide +kernel
theorem nd_F_init_10 : decode nb_F_init 10 = .ok (.aload_n 2, 1) := by decide +kernel
theorem nd_F_init_11 : decode nb_F_init 11 = .ok (.putfield 13, 3) := by decide +kernel
theorem nd_F_init_14 : decode nb_F_init 14 = .ok (.return_, 1) := by decide +kernel
theorem nd_B_init_0 : decode nb_B_init 0 = .ok (.aload_n 0, 1) := by decide +kernel
theorem nd_B_init_1 : decode nb_B_init 1 = .ok (.invokespecial 1, 3) := by decide +kernel
theorem nd_B_init_4 : decode nb_B_init 4 = .ok (.aload_n 0, 1) := by decide +kernel
theorem nd_B_init_5 : decode nb_B_init 5 = .ok (.iload_n 1, 1) := by decide +kernel
theorem nd_B_init_6 : decode nb_B_init 6 = .ok (.putfield 7, 3) := by decide +kernel
theorem nd_B_init_9 : decode nb_B_init 9 = .ok (.aload_n 0, 1) := by decide +kernel
theorem nd_B_init_10 : decode nb_B_init 10 = .ok (.aload_n 2, 1) := by decide +kernel
theorem nd_B_init_11 : decode nb_B_init 11 = .ok (.putfield 13, 3) := by decide +kernel
theorem nd_B_init_14 : decode nb_B_init 14 = .ok (.return_, 1) := by decide +kernel
theorem nd_R_init_0 : decode nb_R_init 0 = .ok (.aload_n 0, 1) := by decide +kernel
theorem nd_R_init_1 : decode nb_R_init 1 = .ok (.invokespecial 3, 3) := by decide +kernel
theorem nd_R_init_4 : decode nb_R_init 4 = .ok (.aload_n 0, 1) := by decide +kernel
theorem nd_R_init_5 : decode nb_R_init 5 = .ok (.iload_n 1, 1) := by decide +kernel
theorem nd_R_init_6 : decode nb_R_init 6 = .ok (.putfield 9, 3) := by decide +kernel
theorem nd_R_init_9 : decode nb_R_init 9 = .ok (.aload_n 0, 1) := by decide +kernel
theorem nd_R_init_10 : decode nb_R_init 10 = .ok (.aload_n 2, 1) := by decide +kernel
theorem nd_R_init_11 : decode nb_R_init 11 = .ok (.putfield 15, 3) := by decide +kernel
theorem nd_R_init_14 : decode nb_R_init 14 = .ok (.return_, 1) := by decide +kernel
theorem nd_Q_init_0 : decode nb_Q_init 0 = .ok (.aload_n 0, 1) := by decide +kernel
theorem nd_Q_init_1 : decode nb_Q_init 1 = .ok (.invokespecial 3, 3) := by decide +kernel
theorem nd_Q_init_4 : decode nb_Q_init 4 = .ok (.aload_n 0, 1) := by decide +kernel
theorem nd_Q_init_5 : decode nb_Q_init 5 = .ok (.iload_n 1, 1) := by decide +kernel
theorem nd_Q_init_6 : decode nb_Q_init 6 = .ok (.putfield 9, 3) := by decide +kernel
theorem nd_Q_init_9 : decode nb_Q_init 9 = .ok (.aload_n 0, 1) := by decide +kernel
theorem nd_Q_init_10 : decode nb_Q_init 10 = .ok (.aload_n 2, 1) := by decide +kernel
theorem nd_Q_init_11 : decode nb_Q_init 11 = .ok (.putfield 15, 3) := by decide +kernel
theorem nd_Q_init_14 : decode nb_Q_init 14 = .ok (.aload_n 0, 1) := by decide +kernel
theorem nd_Q_init_15 : decode nb_Q_init 15 = .ok (.aload_n 3, 1) := by decide +kernel
theorem nd_Q_init_16 : decode nb_Q_init 16 = .ok (.putfield 19, 3) := by decide +kernel
theorem nd_Q_init_19 : decode nb_Q_init 19 = .ok (.aload_n 0, 1) := by decide +kernel
theorem nd_Q_init_20 : decode nb_Q_init 20 = .ok (.iload 4, 2) := by decide +kernel
theorem nd_Q_init_22 : decode nb_Q_init 22 = .ok (.putfield 23, 3) := by decide +kernel
theorem nd_Q_init_25 : decode nb_Q_init 25 = .ok (.aload_n 0, 1) := by decide +kernel
theorem nd_Q_init_26 : decode nb_Q_init 26 = .ok (.iload 5, 2) := by decide +kernel
theorem nd_Q_init_28 : decode nb_Q_init 28 = .ok (.putfield 26, 3) := by decide +kernel
theorem nd_Q_init_31 : decode nb_Q_init 31 = .ok (.return_, 1) := by decide +kernel
theorem nd_L_add_0 : decode nb_L_add 0 = .ok (.aload 5, 2) := by decide +kernel
theorem nd_L_add_2 : decode nb_L_add 2 = .ok (.iconst 0, 1) := by decide +kernel
theorem nd_L_add_3 : decode nb_L_add 3 = .ok (.aload_n 0, 1) := by decide +kernel
theorem nd_L_add_4 : decode nb_L_add 4 = .ok (.iload_n 1, 1) := by decide +kernel
theorem nd_L_add_5 : decode nb_L_add 5 = .ok (.iload_n 2, 1) := by decide +kernel
theorem nd_L_add_6 : decode nb_L_add 6 = .ok (.lload_n 3, 1) := by decide +kernel
theorem nd_L_add_7 : decode nb_L_add 7 = .ok (.invokevirtual 7, 3) := by decide +kernel
theorem nd_L_add_10 : decode nb_L_add 10 = .ok (.i2l, 1) := by decide +kernel
theorem nd_L_add_11 : decode nb_L_add 11 = .ok (.lastore, 1) := by decide +kernel
theorem nd_L_add_12 : decode nb_L_add 12 = .ok (.goto 11, 3) := by decide +kernel
theorem nd_L_add_15 : decode nb_L_add 15 = .ok (.astore 6, 2) := by decide +kernel
theorem nd_L_add_17 : decode nb_L_add 17 = .ok (.iconst 1, 1) := by decide +kernel
theorem nd_L_add_18 : decode nb_L_add 18 = .ok (.ireturn, 1) := by decide +kernel
theorem nd_L_add_19 : decode nb_L_add 19 = .ok (.astore 6, 2) := by decide +kernel
theorem nd_L_add_21 : decode nb_L_add 21 = .ok (.iconst 2, 1) := by decide +kernel
theorem nd_L_add_22 : decode nb_L_add 22 = .ok (.ireturn, 1) := by decide +kernel
theorem nd_L_add_23 : decode nb_L_add 23 = .ok (.iconst 0, 1) := by decide +kernel
theorem nd_L_add_24 : decode nb_L_add 24 = .ok (.ireturn, 1) := by decide +kernel
theorem nd_S_add_0 : decode nb_S_add 0 = .ok (.iload_n 1, 1) := by decide +kernel
theorem nd_S_add_1 : decode nb_S_add 1 = .ok (.invokestatic 30, 3) := by decide +kernel
theorem nd_S_add_4 : decode nb_S_add 4 = .ok (.iload_n 2, 1) := by decide +kernel
theorem nd_S_add_5 : decode nb_S_add 5 = .ok (.invokestatic 30, 3) := by decide +kernel
theorem nd_S_add_8 : decode nb_S_add 8 = .ok (.aload_n 0, 1) := by decide +kernel
theorem nd_S_add_9 : decode nb_S_add 9 = .ok (.getfield 19, 3) := by decide +kernel
theorem nd_S_add_12 : decode nb_S_add 12 = .ok (.iload_n 2, 1) := by decide +kernel
theorem nd_S_add_13 : decode nb_S_add 13 = .ok (.aaload, 1) := by decide +kernel
theorem nd_S_add_14 : decode nb_S_add 14 = .ok (.invokestatic 34, 3) := by decide +kernel
theorem nd_S_add_17 : decode nb_S_add 17 = .ok (.aload_n 0, 1) := by decide +kernel
theorem nd_S_add_18 : decode nb_S_add 18 = .ok (.aload_n 0, 1) := by decide +kernel
theorem nd_S_add_19 : decode nb_S_add 19 = .ok (.getfield 19, 3) := by decide +kernel
theorem nd_S_add_22 : decode nb_S_add 22 = .ok (.iload_n 2, 1) := by decide +kernel
theorem nd_S_add_23 : decode nb_S_add 23 = .ok (.aaload, 1) := by decide +kernel
theorem nd_S_add_24 : decode nb_S_add 24 = .ok (.invokevirtual 38, 3) := by decide +kernel
theorem nd_S_add_27 : decode nb_S_add 27 = .ok (.astore 5, 2) := by decide +kernel
theorem nd_S_add_29 : decode nb_S_add 29 = .ok (.aload 5, 2) := by decide +kernel
theorem nd_S_add_31 : decode nb_S_add 31 = .ok (.lload_n 3, 1) := by decide +kernel
theorem nd_S_add_32 : decode nb_S_add 32 = .ok (.invokevirtual 42, 3) := by decide +kernel
theorem nd_S_add_35 : decode nb_S_add 35 = .ok (.aload_n 0, 1) := by decide +kernel
theorem nd_S_add_36 : decode nb_S_add 36 = .ok (.getfield 19, 3) := by decide +kernel
theorem nd_S_add_39 : decode nb_S_add 39 = .ok (.iload_n 1, 1) := by decide +kernel
theorem nd_S_add_40 : decode nb_S_add 40 = .ok (.aload 5, 2) := by decide +kernel
theorem nd_S_add_42 : decode nb_S_add 42 = .ok (.aastore, 1) := by decide +kernel
theorem nd_S_add_43 : decode nb_S_add 43 = .ok (.aload 5, 2) := by decide +kernel
theorem nd_S_add_45 : decode nb_S_add 45 = .ok (.getfield 46, 3) := by decide +kernel
theorem nd_S_add_48 : decode nb_S_add 48 = .ok (.ireturn, 1) := by decide +kernel
theorem nd_S_checkSlot_0 : decode nb_S_checkSlot 0 = .ok (.iload_n 0, 1) := by decide +kernel
theorem nd_S_checkSlot_1 : decode nb_S_checkSlot 1 = .ok (.iconst 0, 1) := by decide +kernel
theorem nd_S_checkSlot_2 : decode nb_S_checkSlot 2 = .ok (.bipush 15, 2) := by decide +kernel
theorem nd_S_checkSlot_4 : decode nb_S_checkSlot 4 = .ok (.invokestatic 78, 3) := by decide +kernel
theorem nd_S_checkSlot_7 : decode nb_S_checkSlot 7 = .ok (.return_, 1) := by decide +kernel
theorem nd_S_checkRange_0 : decode nb_S_checkRange 0 = .ok (.iload_n 0, 1) := by decide +kernel
theorem nd_S_checkRange_1 : decode nb_S_checkRange 1 = .ok (.iload_n 1, 1) := by decide +kernel
theorem nd_S_checkRange_2 : decode nb_S_checkRange 2 = .ok (.if_icmp .lt 8, 3) := by decide +kernel
theorem nd_S_checkRange_5 : decode nb_S_checkRange 5 = .ok (.iload_n 0, 1) := by decide +kernel
theorem nd_S_checkRange_6 : decode nb_S_checkRange 6 = .ok (.iload_n 2, 1) := by decide +kernel
theorem nd_S_checkRange_7 : decode nb_S_checkRange 7 = .ok (.if_icmp .le 13, 3) := by decide +kernel
theorem nd_S_checkRange_10 : decode nb_S_checkRange 10 = .ok (.new 108, 3) := by decide +kernel
theorem nd_S_checkRange_13 : decode nb_S_checkRange 13 = .ok (.dup, 1) := by decide +kernel
theorem nd_S_checkRange_14 : decode nb_S_checkRange 14 = .ok (.ldc 110, 2) := by decide +kernel
theorem nd_S_checkRange_16 : decode nb_S_checkRange 16 = .ok (.invokespecial 112, 3) := by decide +kernel
theorem nd_S_checkRange_19 : decode nb_S_checkRange 19 = .ok (.athrow, 1) := by decide +kernel
theorem nd_S_checkRange_20 : decode nb_S_checkRange 20 = .ok (.return_, 1) := by decide +kernel
theorem nd_S_checkRoom_0 : decode nb_S_checkRoom 0 = .ok (.aload_n 0, 1) := by decide +kernel
theorem nd_S_checkRoom_1 : decode nb_S_checkRoom 1 = .ok (.getfield 46, 3) := by decide +kernel
theorem nd_S_checkRoom_4 : decode nb_S_checkRoom 4 = .ok (.sipush 3000, 3) := by decide +kernel
theorem nd_S_checkRoom_7 : decode nb_S_checkRoom 7 = .ok (.if_icmp .lt 13, 3) := by decide +kernel
theorem nd_S_checkRoom_10 : decode nb_S_checkRoom 10 = .ok (.new 117, 3) := by decide +kernel
theorem nd_S_checkRoom_13 : decode nb_S_checkRoom 13 = .ok (.dup, 1) := by decide +kernel
theorem nd_S_checkRoom_14 : decode nb_S_checkRoom 14 = .ok (.ldc 119, 2) := by decide +kernel
theorem nd_S_checkRoom_16 : decode nb_S_checkRoom 16 = .ok (.invokespecial 121, 3) := by decide +kernel
theorem nd_S_checkRoom_19 : decode nb_S_checkRoom 19 = .ok (.athrow, 1) := by decide +kernel
theorem nd_S_checkRoom_20 : decode nb_S_checkRoom 20 = .ok (.return_, 1) := by decide +kernel
theorem nd_S_draftOf_0 : decode nb_S_draftOf 0 = .ok (.aload_n 0, 1) := by decide +kernel
theorem nd_S_draftOf_1 : decode nb_S_draftOf 1 = .ok (.dup, 1) := by decide +kernel
theorem nd_S_draftOf_2 : decode nb_S_draftOf 2 = .ok (.getfield 26, 3) := by decide +kernel
theorem nd_S_draftOf_5 : decode nb_S_draftOf 5 = .ok (.iconst 1, 1) := by decide +kernel
theorem nd_S_draftOf_6 : decode nb_S_draftOf 6 = .ok (.iadd, 1) := by decide +kernel
theorem nd_S_draftOf_7 : decode nb_S_draftOf 7 = .ok (.putfield 26, 3) := by decide +kernel
theorem nd_S_draftOf_10 : decode nb_S_draftOf 10 = .ok (.new 17, 3) := by decide +kernel
theorem nd_S_draftOf_13 : decode nb_S_draftOf 13 = .ok (.dup, 1) := by decide +kernel
theorem nd_S_draftOf_14 : decode nb_S_draftOf 14 = .ok (.aload_n 0, 1) := by decide +kernel
theorem nd_S_draftOf_15 : decode nb_S_draftOf 15 = .ok (.getfield 26, 3) := by decide +kernel
theorem nd_S_draftOf_18 : decode nb_S_draftOf 18 = .ok (.aload_n 1, 1) := by decide +kernel
theorem nd_S_draftOf_19 : decode nb_S_draftOf 19 = .ok (.getfield 94, 3) := by decide +kernel
theorem nd_S_draftOf_22 : decode nb_S_draftOf 22 = .ok (.aload_n 1, 1) := by decide +kernel
theorem nd_S_draftOf_23 : decode nb_S_draftOf 23 = .ok (.getfield 98, 3) := by decide +kernel
theorem nd_S_draftOf_26 : decode nb_S_draftOf 26 = .ok (.aload_n 1, 1) := by decide +kernel
theorem nd_S_draftOf_27 : decode nb_S_draftOf 27 = .ok (.getfield 102, 3) := by decide +kernel
theorem nd_S_draftOf_30 : decode nb_S_draftOf 30 = .ok (.aload_n 1, 1) := by decide +kernel
theorem nd_S_draftOf_31 : decode nb_S_draftOf 31 = .ok (.getfield 46, 3) := by decide +kernel
theorem nd_S_draftOf_34 : decode nb_S_draftOf 34 = .ok (.invokespecial 105, 3) := by decide +kernel
theorem nd_S_draftOf_37 : decode nb_S_draftOf 37 = .ok (.areturn, 1) := by decide +kernel
theorem nd_Q_append_0 : decode nb_Q_append 0 = .ok (.aload_n 0, 1) := by decide +kernel
theorem nd_Q_append_1 : decode nb_Q_append 1 = .ok (.aload_n 0, 1) := by decide +kernel
theorem nd_Q_append_2 : decode nb_Q_append 2 = .ok (.getfield 26, 3) := by decide +kernel
theorem nd_Q_append_5 : decode nb_Q_append 5 = .ok (.invokevirtual 29, 3) := by decide +kernel
theorem nd_Q_append_8 : decode nb_Q_append 8 = .ok (.istore_n 3, 1) := by decide +kernel
theorem nd_Q_append_9 : decode nb_Q_append 9 = .ok (.iload_n 3, 1) := by decide +kernel
theorem nd_Q_append_10 : decode nb_Q_append 10 = .ok (.iconst 5, 1) := by decide +kernel
theorem nd_Q_append_11 : decode nb_Q_append 11 = .ok (.iushr, 1) := by decide +kernel
theorem nd_Q_append_12 : decode nb_Q_append 12 = .ok (.istore 4, 2) := by decide +kernel
theorem nd_Q_append_14 : decode nb_Q_append 14 = .ok (.aload_n 0, 1) := by decide +kernel
theorem nd_Q_append_15 : decode nb_Q_append 15 = .ok (.invokevirtual 43, 3) := by decide +kernel
theorem nd_Q_append_18 : decode nb_Q_append 18 = .ok (.istore 5, 2) := by decide +kernel
theorem nd_Q_append_20 : decode nb_Q_append 20 = .ok (.aload_n 0, 1) := by decide +kernel
theorem nd_Q_append_21 : decode nb_Q_append 21 = .ok (.dup, 1) := by decide +kernel
theorem nd_Q_append_22 : decode nb_Q_append 22 = .ok (.getfield 26, 3) := by decide +kernel
theorem nd_Q_append_25 : decode nb_Q_append 25 = .ok (.iconst 1, 1) := by decide +kernel
theorem nd_Q_append_26 : decode nb_Q_append 26 = .ok (.iadd, 1) := by decide +kernel
theorem nd_Q_append_27 : decode nb_Q_append 27 = .ok (.putfield 26, 3) := by decide +kernel
theorem nd_Q_append_30 : decode nb_Q_append 30 = .ok (.iload 4, 2) := by decide +kernel
theorem nd_Q_append_32 : decode nb_Q_append 32 = .ok (.iload 5, 2) := by decide +kernel
theorem nd_Q_append_34 : decode nb_Q_append 34 = .ok (.if_icmp .eq 26, 3) := by decide +kernel
theorem nd_Q_append_37 : decode nb_Q_append 37 = .ok (.aload_n 0, 1) := by decide +kernel
theorem nd_Q_append_38 : decode nb_Q_append 38 = .ok (.iload 5, 2) := by decide +kernel
theorem nd_Q_append_40 : decode nb_Q_append 40 = .ok (.aload_n 0, 1) := by decide +kernel
theorem nd_Q_append_41 : decode nb_Q_append 41 = .ok (.getfield 19, 3) := by decide +kernel
theorem nd_Q_append_44 : decode nb_Q_append 44 = .ok (.invokevirtual 47, 3) := by decide +kernel
theorem nd_Q_append_47 : decode nb_Q_append 47 = .ok (.aload_n 0, 1) := by decide +kernel
theorem nd_Q_append_48 : decode nb_Q_append 48 = .ok (.aload_n 0, 1) := by decide +kernel
theorem nd_Q_append_49 : decode nb_Q_append 49 = .ok (.getfield 15, 3) := by decide +kernel
theorem nd_Q_append_52 : decode nb_Q_append 52 = .ok (.iload 4, 2) := by decide +kernel
theorem nd_Q_append_54 : decode nb_Q_append 54 = .ok (.invokevirtual 51, 3) := by decide +kernel
theorem nd_Q_append_57 : decode nb_Q_append 57 = .ok (.putfield 19, 3) := by decide +kernel
theorem nd_Q_append_60 : decode nb_Q_append 60 = .ok (.aload_n 0, 1) := by decide +kernel
theorem nd_Q_append_61 : decode nb_Q_append 61 = .ok (.iload_n 3, 1) := by decide +kernel
theorem nd_Q_append_62 : decode nb_Q_append 62 = .ok (.lload_n 1, 1) := by decide +kernel
theorem nd_Q_append_63 : decode nb_Q_append 63 = .ok (.invokevirtual 54, 3) := by decide +kernel
theorem nd_Q_append_66 : decode nb_Q_append 66 = .ok (.return_, 1) := by decide +kernel
theorem nd_Q_position_0 : decode nb_Q_position 0 = .ok (.aload_n 0, 1) := by decide +kernel
theorem nd_Q_position_1 : decode nb_Q_position 1 = .ok (.getfield 23, 3) := by decide +kernel
theorem nd_Q_position_4 : decode nb_Q_position 4 = .ok (.iload_n 1, 1) := by decide +kernel
theorem nd_Q_position_5 : decode nb_Q_position 5 = .ok (.iadd, 1) := by decide +kernel
theorem nd_Q_position_6 : decode nb_Q_position 6 = .ok (.sipush 32767, 3) := by decide +kernel
theorem nd_Q_position_9 : decode nb_Q_position 9 = .ok (.iand, 1) := by decide +kernel
theorem nd_Q_position_10 : decode nb_Q_position 10 = .ok (.ireturn, 1) := by decide +kernel
theorem nd_Q_tailBlock_0 : decode nb_Q_tailBlock 0 = .ok (.aload_n 0, 1) := by decide +kernel
theorem nd_Q_tailBlock_1 : decode nb_Q_tailBlock 1 = .ok (.aload_n 0, 1) := by decide +kernel
theorem nd_Q_tailBlock_2 : decode nb_Q_tailBlock 2 = .ok (.getfield 26, 3) := by decide +kernel
theorem nd_Q_tailBlock_5 : decode nb_Q_tailBlock 5 = .ok (.iconst 1, 1) := by decide +kernel
theorem nd_Q_tailBlock_6 : decode nb_Q_tailBlock 6 = .ok (.isub, 1) := by decide +kernel
theorem nd_Q_tailBlock_7 : decode nb_Q_tailBlock 7 = .ok (.invokevirtual 29, 3) := by decide +kernel
theorem nd_Q_tailBlock_10 : decode nb_Q_tailBlock 10 = .ok (.iconst 5, 1) := by decide +kernel
theorem nd_Q_tailBlock_11 : decode nb_Q_tailBlock 11 = .ok (.iushr, 1) := by decide +kernel
theorem nd_Q_tailBlock_12 : decode nb_Q_tailBlock 12 = .ok (.ireturn, 1) := by decide +kernel
theorem nd_Q_hang_0 : decode nb_Q_hang 0 = .ok (.aload_n 0, 1) := by decide +kernel
theorem nd_Q_hang_1 : decode nb_Q_hang 1 = .ok (.aload_n 0, 1) := by decide +kernel
theorem nd_Q_hang_2 : decode nb_Q_hang 2 = .ok (.getfield 15, 3) := by decide +kernel
theorem nd_Q_hang_5 : decode nb_Q_hang 5 = .ok (.aload_n 0, 1) := by decide +kernel
theorem nd_Q_hang_6 : decode nb_Q_hang 6 = .ok (.getfield 9, 3) := by decide +kernel
theorem nd_Q_hang_9 : decode nb_Q_hang 9 = .ok (.invokevirtual 61, 3) := by decide +kernel
theorem nd_Q_hang_12 : decode nb_Q_hang 12 = .ok (.putfield 15, 3) := by decide +kernel
theorem nd_Q_hang_15 : decode nb_Q_hang 15 = .ok (.aload_n 0, 1) := by decide +kernel
theorem nd_Q_hang_16 : decode nb_Q_hang 16 = .ok (.getfield 15, 3) := by decide +kernel
theorem nd_Q_hang_19 : decode nb_Q_hang 19 = .ok (.iload_n 1, 1) := by decide +kernel
theorem nd_Q_hang_20 : decode nb_Q_hang 20 = .ok (.aload_n 2, 1) := by decide +kernel
theorem nd_Q_hang_21 : decode nb_Q_hang 21 = .ok (.invokevirtual 64, 3) := by decide +kernel
theorem nd_Q_hang_24 : decode nb_Q_hang 24 = .ok (.return_, 1) := by decide +kernel
theorem nd_R_ownedBy_0 : decode nb_R_ownedBy 0 = .ok (.aload_n 0, 1) := by decide +kernel
theorem nd_R_ownedBy_1 : decode nb_R_ownedBy 1 = .ok (.getfield 9, 3) := by decide +kernel
theorem nd_R_ownedBy_4 : decode nb_R_ownedBy 4 = .ok (.iload_n 1, 1) := by decide +kernel
theorem nd_R_ownedBy_5 : decode nb_R_ownedBy 5 = .ok (.if_icmp .ne 7, 3) := by decide +kernel
theorem nd_R_ownedBy_8 : decode nb_R_ownedBy 8 = .ok (.aload_n 0, 1) := by decide +kernel
theorem nd_R_ownedBy_9 : decode nb_R_ownedBy 9 = .ok (.goto 21, 3) := by decide +kernel
theorem nd_R_ownedBy_12 : decode nb_R_ownedBy 12 = .ok (.new 10, 3) := by decide +kernel
theorem nd_R_ownedBy_15 : decode nb_R_ownedBy 15 = .ok (.dup, 1) := by decide +kernel
theorem nd_R_ownedBy_16 : decode nb_R_ownedBy 16 = .ok (.iload_n 1, 1) := by decide +kernel
theorem nd_R_ownedBy_17 : decode nb_R_ownedBy 17 = .ok (.aload_n 0, 1) := by decide +kernel
theorem nd_R_ownedBy_18 : decode nb_R_ownedBy 18 = .ok (.getfield 15, 3) := by decide +kernel
theorem nd_R_ownedBy_21 : decode nb_R_ownedBy 21 = .ok (.invokevirtual 19, 3) := by decide +kernel
theorem nd_R_ownedBy_24 : decode nb_R_ownedBy 24 = .ok (.checkcast 20, 3) := by decide +kernel
theorem nd_R_ownedBy_27 : decode nb_R_ownedBy 27 = .ok (.invokespecial 24, 3) := by decide +kernel
theorem nd_R_ownedBy_30 : decode nb_R_ownedBy 30 = .ok (.areturn, 1) := by decide +kernel
theorem nd_R_hangOwned_0 : decode nb_R_hangOwned 0 = .ok (.aload_n 0, 1) := by decide +kernel
theorem nd_R_hangOwned_1 : decode nb_R_hangOwned 1 = .ok (.getfield 15, 3) := by decide +kernel
theorem nd_R_hangOwned_4 : decode nb_R_hangOwned 4 = .ok (.iload_n 1, 1) := by decide +kernel
theorem nd_R_hangOwned_5 : decode nb_R_hangOwned 5 = .ok (.iconst 5, 1) := by decide +kernel
theorem nd_R_hangOwned_6 : decode nb_R_hangOwned 6 = .ok (.iushr, 1) := by decide +kernel
theorem nd_R_hangOwned_7 : decode nb_R_hangOwned 7 = .ok (.aaload, 1) := by decide +kernel
theorem nd_R_hangOwned_8 : decode nb_R_hangOwned 8 = .ok (.aload_n 0, 1) := by decide +kernel
theorem nd_R_hangOwned_9 : decode nb_R_hangOwned 9 = .ok (.getfield 9, 3) := by decide +kernel
theorem nd_R_hangOwned_12 : decode nb_R_hangOwned 12 = .ok (.invokevirtual 33, 3) := by decide +kernel
theorem nd_R_hangOwned_15 : decode nb_R_hangOwned 15 = .ok (.astore_n 3, 1) := by decide +kernel
theorem nd_R_hangOwned_16 : decode nb_R_hangOwned 16 = .ok (.aload_n 3, 1) := by decide +kernel
theorem nd_R_hangOwned_17 : decode nb_R_hangOwned 17 = .ok (.getfield 27, 3) := by decide +kernel
theorem nd_R_hangOwned_20 : decode nb_R_hangOwned 20 = .ok (.iload_n 1, 1) := by decide +kernel
theorem nd_R_hangOwned_21 : decode nb_R_hangOwned 21 = .ok (.bipush 31, 2) := by decide +kernel
theorem nd_R_hangOwned_23 : decode nb_R_hangOwned 23 = .ok (.iand, 1) := by decide +kernel
theorem nd_R_hangOwned_24 : decode nb_R_hangOwned 24 = .ok (.aload_n 2, 1) := by decide +kernel
theorem nd_R_hangOwned_25 : decode nb_R_hangOwned 25 = .ok (.aastore, 1) := by decide +kernel
theorem nd_R_hangOwned_26 : decode nb_R_hangOwned 26 = .ok (.aload_n 0, 1) := by decide +kernel
theorem nd_R_hangOwned_27 : decode nb_R_hangOwned 27 = .ok (.getfield 15, 3) := by decide +kernel
theorem nd_R_hangOwned_30 : decode nb_R_hangOwned 30 = .ok (.iload_n 1, 1) := by decide +kernel
theorem nd_R_hangOwned_31 : decode nb_R_hangOwned 31 = .ok (.iconst 5, 1) := by decide +kernel
theorem nd_R_hangOwned_32 : decode nb_R_hangOwned 32 = .ok (.iushr, 1) := by decide +kernel
theorem nd_R_hangOwned_33 : decode nb_R_hangOwned 33 = .ok (.aload_n 3, 1) := by decide +kernel
theorem nd_R_hangOwned_34 : decode nb_R_hangOwned 34 = .ok (.aastore, 1) := by decide +kernel
theorem nd_R_hangOwned_35 : decode nb_R_hangOwned 35 = .ok (.return_, 1) := by decide +kernel
theorem nd_B_ownedBy_0 : decode nb_B_ownedBy 0 = .ok (.aload_n 0, 1) := by decide +kernel
theorem nd_B_ownedBy_1 : decode nb_B_ownedBy 1 = .ok (.getfield 7, 3) := by decide +kernel
theorem nd_B_ownedBy_4 : decode nb_B_ownedBy 4 = .ok (.iload_n 1, 1) := by decide +kernel
theorem nd_B_ownedBy_5 : decode nb_B_ownedBy 5 = .ok (.if_icmp .ne 7, 3) := by decide +kernel
theorem nd_B_ownedBy_8 : decode nb_B_ownedBy 8 = .ok (.aload_n 0, 1) := by decide +kernel
theorem nd_B_ownedBy_9 : decode nb_B_ownedBy 9 = .ok (.goto 21, 3) := by decide +kernel
theorem nd_B_ownedBy_12 : decode nb_B_ownedBy 12 = .ok (.new 8, 3) := by decide +kernel
theorem nd_B_ownedBy_15 : decode nb_B_ownedBy 15 = .ok (.dup, 1) := by decide +kernel
theorem nd_B_ownedBy_16 : decode nb_B_ownedBy 16 = .ok (.iload_n 1, 1) := by decide +kernel
theorem nd_B_ownedBy_17 : decode nb_B_ownedBy 17 = .ok (.aload_n 0, 1) := by decide +kernel
theorem nd_B_ownedBy_18 : decode nb_B_ownedBy 18 = .ok (.getfield 13, 3) := by decide +kernel
theorem nd_B_ownedBy_21 : decode nb_B_ownedBy 21 = .ok (.invokevirtual 17, 3) := by decide +kernel
theorem nd_B_ownedBy_24 : decode nb_B_ownedBy 24 = .ok (.checkcast 18, 3) := by decide +kernel
theorem nd_B_ownedBy_27 : decode nb_B_ownedBy 27 = .ok (.invokespecial 22, 3) := by decide +kernel
theorem nd_B_ownedBy_30 : decode nb_B_ownedBy 30 = .ok (.areturn, 1) := by decide +kernel
theorem nd_R_leafOf_0 : decode nb_R_leafOf 0 = .ok (.aload_n 0, 1) := by decide +kernel
theorem nd_R_leafOf_1 : decode nb_R_leafOf 1 = .ok (.getfield 15, 3) := by decide +kernel
theorem nd_R_leafOf_4 : decode nb_R_leafOf 4 = .ok (.iload_n 1, 1) := by decide +kernel
theorem nd_R_leafOf_5 : decode nb_R_leafOf 5 = .ok (.iconst 5, 1) := by decide +kernel
theorem nd_R_leafOf_6 : decode nb_R_leafOf 6 = .ok (.iushr, 1) := by decide +kernel
theorem nd_R_leafOf_7 : decode nb_R_leafOf 7 = .ok (.aaload, 1) := by decide +kernel
theorem nd_R_leafOf_8 : decode nb_R_leafOf 8 = .ok (.getfield 27, 3) := by decide +kernel
theorem nd_R_leafOf_11 : decode nb_R_leafOf 11 = .ok (.iload_n 1, 1) := by decide +kernel
theorem nd_R_leafOf_12 : decode nb_R_leafOf 12 = .ok (.bipush 31, 2) := by decide +kernel
theorem nd_R_leafOf_14 : decode nb_R_leafOf 14 = .ok (.iand, 1) := by decide +kernel
theorem nd_R_leafOf_15 : decode nb_R_leafOf 15 = .ok (.aaload, 1) := by decide +kernel
theorem nd_R_leafOf_16 : decode nb_R_leafOf 16 = .ok (.areturn, 1) := by decide +kernel
theorem nd_Q_write_0 : decode nb_Q_write 0 = .ok (.iload_n 1, 1) := by decide +kernel
theorem nd_Q_write_1 : decode nb_Q_write 1 = .ok (.iconst 5, 1) := by decide +kernel
theorem nd_Q_write_2 : decode nb_Q_write 2 = .ok (.iushr, 1) := by decide +kernel
theorem nd_Q_write_3 : decode nb_Q_write 3 = .ok (.istore 4, 2) := by decide +kernel
theorem nd_Q_write_5 : decode nb_Q_write 5 = .ok (.aload_n 0, 1) := by decide +kernel
theorem nd_Q_write_6 : decode nb_Q_write 6 = .ok (.iload 4, 2) := by decide +kernel
theorem nd_Q_write_8 : decode nb_Q_write 8 = .ok (.invokevirtual 33, 3) := by decide +kernel
theorem nd_Q_write_11 : decode nb_Q_write 11 = .ok (.aload_n 0, 1) := by decide +kernel
theorem nd_Q_write_12 : decode nb_Q_write 12 = .ok (.getfield 9, 3) := by decide +kernel
theorem nd_Q_write_15 : decode nb_Q_write 15 = .ok (.invokevirtual 58, 3) := by decide +kernel
theorem nd_Q_write_18 : decode nb_Q_write 18 = .ok (.astore 5, 2) := by decide +kernel
theorem nd_Q_write_20 : decode nb_Q_write 20 = .ok (.aload 5, 2) := by decide +kernel
theorem nd_Q_write_22 : decode nb_Q_write 22 = .ok (.getfield 37, 3) := by decide +kernel
theorem nd_Q_write_25 : decode nb_Q_write 25 = .ok (.iload_n 1, 1) := by decide +kernel
theorem nd_Q_write_26 : decode nb_Q_write 26 = .ok (.bipush 31, 2) := by decide +kernel
theorem nd_Q_write_28 : decode nb_Q_write 28 = .ok (.iand, 1) := by decide +kernel
theorem nd_Q_write_29 : decode nb_Q_write 29 = .ok (.lload_n 2, 1) := by decide +kernel
theorem nd_Q_write_30 : decode nb_Q_write 30 = .ok (.lastore, 1) := by decide +kernel
theorem nd_Q_write_31 : decode nb_Q_write 31 = .ok (.iload 4, 2) := by decide +kernel
theorem nd_Q_write_33 : decode nb_Q_write 33 = .ok (.aload_n 0, 1) := by decide +kernel
theorem nd_Q_write_34 : decode nb_Q_write 34 = .ok (.invokevirtual 43, 3) := by decide +kernel
theorem nd_Q_write_37 : decode nb_Q_write 37 = .ok (.if_icmp .ne 12, 3) := by decide +kernel
theorem nd_Q_write_40 : decode nb_Q_write 40 = .ok (.aload_n 0, 1) := by decide +kernel
theorem nd_Q_write_41 : decode nb_Q_write 41 = .ok (.aload 5, 2) := by decide +kernel
theorem nd_Q_write_43 : decode nb_Q_write 43 = .ok (.putfield 19, 3) := by decide +kernel
theorem nd_Q_write_46 : decode nb_Q_write 46 = .ok (.goto 11, 3) := by decide +kernel
theorem nd_Q_write_49 : decode nb_Q_write 49 = .ok (.aload_n 0, 1) := by decide +kernel
theorem nd_Q_write_50 : decode nb_Q_write 50 = .ok (.iload 4, 2) := by decide +kernel
theorem nd_Q_write_52 : decode nb_Q_write 52 = .ok (.aload 5, 2) := by decide +kernel
theorem nd_Q_write_54 : decode nb_Q_write 54 = .ok (.invokevirtual 47, 3) := by decide +kernel
theorem nd_Q_write_57 : decode nb_Q_write 57 = .ok (.return_, 1) := by decide +kernel
theorem nd_Q_leafOf_0 : decode nb_Q_leafOf 0 = .ok (.iload_n 1, 1) := by decide +kernel
theorem nd_Q_leafOf_1 : decode nb_Q_leafOf 1 = .ok (.aload_n 0, 1) := by decide +kernel
theorem nd_Q_leafOf_2 : decode nb_Q_leafOf 2 = .ok (.invokevirtual 43, 3) := by decide +kernel
theorem nd_Q_leafOf_5 : decode nb_Q_leafOf 5 = .ok (.if_icmp .ne 10, 3) := by decide +kernel
theorem nd_Q_leafOf_8 : decode nb_Q_leafOf 8 = .ok (.aload_n 0, 1) := by decide +kernel
theorem nd_Q_leafOf_9 : decode nb_Q_leafOf 9 = .ok (.getfield 19, 3) := by decide +kernel
theorem nd_Q_leafOf_12 : decode nb_Q_leafOf 12 = .ok (.goto 11, 3) := by decide +kernel
theorem nd_Q_leafOf_15 : decode nb_Q_leafOf 15 = .ok (.aload_n 0, 1) := by decide +kernel
theorem nd_Q_leafOf_16 : decode nb_Q_leafOf 16 = .ok (.getfield 15, 3) := by decide +kernel
theorem nd_Q_leafOf_19 : decode nb_Q_leafOf 19 = .ok (.iload_n 1, 1) := by decide +kernel
theorem nd_Q_leafOf_20 : decode nb_Q_leafOf 20 = .ok (.invokevirtual 51, 3) := by decide +kernel
theorem nd_Q_leafOf_23 : decode nb_Q_leafOf 23 = .ok (.areturn, 1) := by decide +kernel
theorem nd_F_ownedBy_0 : decode nb_F_ownedBy 0 = .ok (.aload_n 0, 1) := by decide +kernel
theorem nd_F_ownedBy_1 : decode nb_F_ownedBy 1 = .ok (.getfield 7, 3) := by decide +kernel
theorem nd_F_ownedBy_4 : decode nb_F_ownedBy 4 = .ok (.iload_n 1, 1) := by decide +kernel
theorem nd_F_ownedBy_5 : decode nb_F_ownedBy 5 = .ok (.if_icmp .ne 7, 3) := by decide +kernel
theorem nd_F_ownedBy_8 : decode nb_F_ownedBy 8 = .ok (.aload_n 0, 1) := by decide +kernel
theorem nd_F_ownedBy_9 : decode nb_F_ownedBy 9 = .ok (.goto 21, 3) := by decide +kernel
theorem nd_F_ownedBy_12 : decode nb_F_ownedBy 12 = .ok (.new 8, 3) := by decide +kernel
theorem nd_F_ownedBy_15 : decode nb_F_ownedBy 15 = .ok (.dup, 1) := by decide +kernel
theorem nd_F_ownedBy_16 : decode nb_F_ownedBy 16 = .ok (.iload_n 1, 1) := by decide +kernel
theorem nd_F_ownedBy_17 : decode nb_F_ownedBy 17 = .ok (.aload_n 0, 1) := by decide +kernel
theorem nd_F_ownedBy_18 : decode nb_F_ownedBy 18 = .ok (.getfield 13, 3) := by decide +kernel
theorem nd_F_ownedBy_21 : decode nb_F_ownedBy 21 = .ok (.invokevirtual 17, 3) := by decide +kernel
theorem nd_F_ownedBy_24 : decode nb_F_ownedBy 24 = .ok (.checkcast 18, 3) := by decide +kernel
theorem nd_F_ownedBy_27 : decode nb_F_ownedBy 27 = .ok (.invokespecial 22, 3) := by decide +kernel
theorem nd_F_ownedBy_30 : decode nb_F_ownedBy 30 = .ok (.areturn, 1) := by decide +kernel
theorem nd_L_push_0 : decode nb_L_push 0 = .ok (.aload 5, 2) := by decide +kernel
theorem nd_L_push_2 : decode nb_L_push 2 = .ok (.iconst 0, 1) := by decide +kernel
theorem nd_L_push_3 : decode nb_L_push 3 = .ok (.aload_n 0, 1) := by decide +kernel
theorem nd_L_push_4 : decode nb_L_push 4 = .ok (.iload_n 1, 1) := by decide +kernel
theorem nd_L_push_5 : decode nb_L_push 5 = .ok (.iload_n 2, 1) := by decide +kernel
theorem nd_L_push_6 : decode nb_L_push 6 = .ok (.lload_n 3, 1) := by decide +kernel
theorem nd_L_push_7 : decode nb_L_push 7 = .ok (.invokevirtual 17, 3) := by decide +kernel
theorem nd_L_push_10 : decode nb_L_push 10 = .ok (.i2l, 1) := by decide +kernel
theorem nd_L_push_11 : decode nb_L_push 11 = .ok (.lastore, 1) := by decide +kernel
theorem nd_L_push_12 : decode nb_L_push 12 = .ok (.goto 11, 3) := by decide +kernel
theorem nd_L_push_15 : decode nb_L_push 15 = .ok (.astore 6, 2) := by decide +kernel
theorem nd_L_push_17 : decode nb_L_push 17 = .ok (.iconst 1, 1) := by decide +kernel
theorem nd_L_push_18 : decode nb_L_push 18 = .ok (.ireturn, 1) := by decide +kernel
theorem nd_L_push_19 : decode nb_L_push 19 = .ok (.astore 6, 2) := by decide +kernel
theorem nd_L_push_21 : decode nb_L_push 21 = .ok (.iconst 2, 1) := by decide +kernel
theorem nd_L_push_22 : decode nb_L_push 22 = .ok (.ireturn, 1) := by decide +kernel
theorem nd_L_push_23 : decode nb_L_push 23 = .ok (.iconst 0, 1) := by decide +kernel
theorem nd_L_push_24 : decode nb_L_push 24 = .ok (.ireturn, 1) := by decide +kernel
theorem nd_S_push_0 : decode nb_S_push 0 = .ok (.iload_n 1, 1) := by decide +kernel
theorem nd_S_push_1 : decode nb_S_push 1 = .ok (.invokestatic 30, 3) := by decide +kernel
theorem nd_S_push_4 : decode nb_S_push 4 = .ok (.iload_n 2, 1) := by decide +kernel
theorem nd_S_push_5 : decode nb_S_push 5 = .ok (.invokestatic 30, 3) := by decide +kernel
theorem nd_S_push_8 : decode nb_S_push 8 = .ok (.aload_n 0, 1) := by decide +kernel
theorem nd_S_push_9 : decode nb_S_push 9 = .ok (.getfield 19, 3) := by decide +kernel
theorem nd_S_push_12 : decode nb_S_push 12 = .ok (.iload_n 2, 1) := by decide +kernel
theorem nd_S_push_13 : decode nb_S_push 13 = .ok (.aaload, 1) := by decide +kernel
theorem nd_S_push_14 : decode nb_S_push 14 = .ok (.invokestatic 34, 3) := by decide +kernel
theorem nd_S_push_17 : decode nb_S_push 17 = .ok (.aload_n 0, 1) := by decide +kernel
theorem nd_S_push_18 : decode nb_S_push 18 = .ok (.aload_n 0, 1) := by decide +kernel
theorem nd_S_push_19 : decode nb_S_push 19 = .ok (.getfield 19, 3) := by decide +kernel
theorem nd_S_push_22 : decode nb_S_push 22 = .ok (.iload_n 2, 1) := by decide +kernel
theorem nd_S_push_23 : decode nb_S_push 23 = .ok (.aaload, 1) := by decide +kernel
theorem nd_S_push_24 : decode nb_S_push 24 = .ok (.invokevirtual 38, 3) := by decide +kernel
theorem nd_S_push_27 : decode nb_S_push 27 = .ok (.astore 5, 2) := by decide +kernel
theorem nd_S_push_29 : decode nb_S_push 29 = .ok (.aload 5, 2) := by decide +kernel
theorem nd_S_push_31 : decode nb_S_push 31 = .ok (.lload_n 3, 1) := by decide +kernel
theorem nd_S_push_32 : decode nb_S_push 32 = .ok (.invokevirtual 49, 3) := by decide +kernel
theorem nd_S_push_35 : decode nb_S_push 35 = .ok (.aload_n 0, 1) := by decide +kernel
theorem nd_S_push_36 : decode nb_S_push 36 = .ok (.getfield 19, 3) := by decide +kernel
theorem nd_S_push_39 : decode nb_S_push 39 = .ok (.iload_n 1, 1) := by decide +kernel
theorem nd_S_push_40 : decode nb_S_push 40 = .ok (.aload 5, 2) := by decide +kernel
theorem nd_S_push_42 : decode nb_S_push 42 = .ok (.aastore, 1) := by decide +kernel
theorem nd_S_push_43 : decode nb_S_push 43 = .ok (.aload 5, 2) := by decide +kernel
theorem nd_S_push_45 : decode nb_S_push 45 = .ok (.getfield 46, 3) := by decide +kernel
theorem nd_S_push_48 : decode nb_S_push 48 = .ok (.ireturn, 1) := by decide +kernel
theorem nd_Q_prepend_0 : decode nb_Q_prepend 0 = .ok (.aload_n 0, 1) := by decide +kernel
theorem nd_Q_prepend_1 : decode nb_Q_prepend 1 = .ok (.aload_n 0, 1) := by decide +kernel
theorem nd_Q_prepend_2 : decode nb_Q_prepend 2 = .ok (.iconst (-1), 1) := by decide +kernel
theorem nd_Q_prepend_3 : decode nb_Q_prepend 3 = .ok (.invokevirtual 29, 3) := by decide +kernel
theorem nd_Q_prepend_6 : decode nb_Q_prepend 6 = .ok (.putfield 23, 3) := by decide +kernel
theorem nd_Q_prepend_9 : decode nb_Q_prepend 9 = .ok (.aload_n 0, 1) := by decide +kernel
theorem nd_Q_prepend_10 : decode nb_Q_prepend 10 = .ok (.dup, 1) := by decide +kernel
theorem nd_Q_prepend_11 : decode nb_Q_prepend 11 = .ok (.getfield 26, 3) := by decide +kernel
theorem nd_Q_prepend_14 : decode nb_Q_prepend 14 = .ok (.iconst 1, 1) := by decide +kernel
theorem nd_Q_prepend_15 : decode nb_Q_prepend 15 = .ok (.iadd, 1) := by decide +kernel
theorem nd_Q_prepend_16 : decode nb_Q_prepend 16 = .ok (.putfield 26, 3) := by decide +kernel
theorem nd_Q_prepend_19 : decode nb_Q_prepend 19 = .ok (.aload_n 0, 1) := by decide +kernel
theorem nd_Q_prepend_20 : decode nb_Q_prepend 20 = .ok (.aload_n 0, 1) := by decide +kernel
theorem nd_Q_prepend_21 : decode nb_Q_prepend 21 = .ok (.getfield 23, 3) := by decide +kernel
theorem nd_Q_prepend_24 : decode nb_Q_prepend 24 = .ok (.lload_n 1, 1) := by decide +kernel
theorem nd_Q_prepend_25 : decode nb_Q_prepend 25 = .ok (.invokevirtual 54, 3) := by decide +kernel
theorem nd_Q_prepend_28 : decode nb_Q_prepend 28 = .ok (.return_, 1) := by decide +kernel
theorem nd_L_set_0 : decode nb_L_set 0 = .ok (.aload 6, 2) := by decide +kernel
theorem nd_L_set_2 : decode nb_L_set 2 = .ok (.iconst 0, 1) := by decide +kernel
theorem nd_L_set_3 : decode nb_L_set 3 = .ok (.aload_n 0, 1) := by decide +kernel
theorem nd_L_set_4 : decode nb_L_set 4 = .ok (.iload_n 1, 1) := by decide +kernel
theorem nd_L_set_5 : decode nb_L_set 5 = .ok (.iload_n 2, 1) := by decide +kernel
theorem nd_L_set_6 : decode nb_L_set 6 = .ok (.iload_n 3, 1) := by decide +kernel
theorem nd_L_set_7 : decode nb_L_set 7 = .ok (.lload 4, 2) := by decide +kernel
theorem nd_L_set_9 : decode nb_L_set 9 = .ok (.invokevirtual 20, 3) := by decide +kernel
theorem nd_L_set_12 : decode nb_L_set 12 = .ok (.lastore, 1) := by decide +kernel
theorem nd_L_set_13 : decode nb_L_set 13 = .ok (.goto 11, 3) := by decide +kernel
theorem nd_L_set_16 : decode nb_L_set 16 = .ok (.astore 7, 2) := by decide +kernel
theorem nd_L_set_18 : decode nb_L_set 18 = .ok (.iconst 1, 1) := by decide +kernel
theorem nd_L_set_19 : decode nb_L_set 19 = .ok (.ireturn, 1) := by decide +kernel
theorem nd_L_set_20 : decode nb_L_set 20 = .ok (.astore 7, 2) := by decide +kernel
theorem nd_L_set_22 : decode nb_L_set 22 = .ok (.iconst 2, 1) := by decide +kernel
theorem nd_L_set_23 : decode nb_L_set 23 = .ok (.ireturn, 1) := by decide +kernel
theorem nd_L_set_24 : decode nb_L_set 24 = .ok (.iconst 0, 1) := by decide +kernel
theorem nd_L_set_25 : decode nb_L_set 25 = .ok (.ireturn, 1) := by decide +kernel
theorem nd_S_set_0 : decode nb_S_set 0 = .ok (.iload_n 1, 1) := by decide +kernel
theorem nd_S_set_1 : decode nb_S_set 1 = .ok (.invokestatic 30, 3) := by decide +kernel
theorem nd_S_set_4 : decode nb_S_set 4 = .ok (.iload_n 2, 1) := by decide +kernel
theorem nd_S_set_5 : decode nb_S_set 5 = .ok (.invokestatic 30, 3) := by decide +kernel
theorem nd_S_set_8 : decode nb_S_set 8 = .ok (.aload_n 0, 1) := by decide +kernel
theorem nd_S_set_9 : decode nb_S_set 9 = .ok (.getfield 19, 3) := by decide +kernel
theorem nd_S_set_12 : decode nb_S_set 12 = .ok (.iload_n 2, 1) := by decide +kernel
theorem nd_S_set_13 : decode nb_S_set 13 = .ok (.aaload, 1) := by decide +kernel
theorem nd_S_set_14 : decode nb_S_set 14 = .ok (.iload_n 3, 1) := by decide +kernel
theorem nd_S_set_15 : decode nb_S_set 15 = .ok (.invokestatic 52, 3) := by decide +kernel
theorem nd_S_set_18 : decode nb_S_set 18 = .ok (.aload_n 0, 1) := by decide +kernel
theorem nd_S_set_19 : decode nb_S_set 19 = .ok (.getfield 19, 3) := by decide +kernel
theorem nd_S_set_22 : decode nb_S_set 22 = .ok (.iload_n 2, 1) := by decide +kernel
theorem nd_S_set_23 : decode nb_S_set 23 = .ok (.aaload, 1) := by decide +kernel
theorem nd_S_set_24 : decode nb_S_set 24 = .ok (.iload_n 3, 1) := by decide +kernel
theorem nd_S_set_25 : decode nb_S_set 25 = .ok (.invokevirtual 56, 3) := by decide +kernel
theorem nd_S_set_28 : decode nb_S_set 28 = .ok (.lstore 6, 2) := by decide +kernel
theorem nd_S_set_30 : decode nb_S_set 30 = .ok (.aload_n 0, 1) := by decide +kernel
theorem nd_S_set_31 : decode nb_S_set 31 = .ok (.aload_n 0, 1) := by decide +kernel
theorem nd_S_set_32 : decode nb_S_set 32 = .ok (.getfield 19, 3) := by decide +kernel
theorem nd_S_set_35 : decode nb_S_set 35 = .ok (.iload_n 2, 1) := by decide +kernel
theorem nd_S_set_36 : decode nb_S_set 36 = .ok (.aaload, 1) := by decide +kernel
theorem nd_S_set_37 : decode nb_S_set 37 = .ok (.invokevirtual 38, 3) := by decide +kernel
theorem nd_S_set_40 : decode nb_S_set 40 = .ok (.astore 8, 2) := by decide +kernel
theorem nd_S_set_42 : decode nb_S_set 42 = .ok (.aload 8, 2) := by decide +kernel
theorem nd_S_set_44 : decode nb_S_set 44 = .ok (.iload_n 3, 1) := by decide +kernel
theorem nd_S_set_45 : decode nb_S_set 45 = .ok (.lload 4, 2) := by decide +kernel
theorem nd_S_set_47 : decode nb_S_set 47 = .ok (.invokevirtual 60, 3) := by decide +kernel
theorem nd_S_set_50 : decode nb_S_set 50 = .ok (.aload_n 0, 1) := by decide +kernel
theorem nd_S_set_51 : decode nb_S_set 51 = .ok (.getfield 19, 3) := by decide +kernel
theorem nd_S_set_54 : decode nb_S_set 54 = .ok (.iload_n 1, 1) := by decide +kernel
theorem nd_S_set_55 : decode nb_S_set 55 = .ok (.aload 8, 2) := by decide +kernel
theorem nd_S_set_57 : decode nb_S_set 57 = .ok (.aastore, 1) := by decide +kernel
theorem nd_S_set_58 : decode nb_S_set 58 = .ok (.lload 6, 2) := by decide +kernel
theorem nd_S_set_60 : decode nb_S_set 60 = .ok (.lreturn, 1) := by decide +kernel
theorem nd_S_checkElement_0 : decode nb_S_checkElement 0 = .ok (.iload_n 1, 1) := by decide +kernel
theorem nd_S_checkElement_1 : decode nb_S_checkElement 1 = .ok (.ifCond .lt 11, 3) := by decide +kernel
theorem nd_S_checkElement_4 : decode nb_S_checkElement 4 = .ok (.iload_n 1, 1) := by decide +kernel
theorem nd_S_checkElement_5 : decode nb_S_checkElement 5 = .ok (.aload_n 0, 1) := by decide +kernel
theorem nd_S_checkElement_6 : decode nb_S_checkElement 6 = .ok (.getfield 46, 3) := by decide +kernel
theorem nd_S_checkElement_9 : decode nb_S_checkElement 9 = .ok (.if_icmp .lt 13, 3) := by decide +kernel
theorem nd_S_checkElement_12 : decode nb_S_checkElement 12 = .ok (.new 67, 3) := by decide +kernel
theorem nd_S_checkElement_15 : decode nb_S_checkElement 15 = .ok (.dup, 1) := by decide +kernel
theorem nd_S_checkElement_16 : decode nb_S_checkElement 16 = .ok (.ldc 115, 2) := by decide +kernel
theorem nd_S_checkElement_18 : decode nb_S_checkElement 18 = .ok (.invokespecial 71, 3) := by decide +kernel
theorem nd_S_checkElement_21 : decode nb_S_checkElement 21 = .ok (.athrow, 1) := by decide +kernel
theorem nd_S_checkElement_22 : decode nb_S_checkElement 22 = .ok (.return_, 1) := by decide +kernel
theorem nd_Q_element_0 : decode nb_Q_element 0 = .ok (.aload_n 0, 1) := by decide +kernel
theorem nd_Q_element_1 : decode nb_Q_element 1 = .ok (.iload_n 1, 1) := by decide +kernel
theorem nd_Q_element_2 : decode nb_Q_element 2 = .ok (.invokevirtual 29, 3) := by decide +kernel
theorem nd_Q_element_5 : decode nb_Q_element 5 = .ok (.istore_n 2, 1) := by decide +kernel
theorem nd_Q_element_6 : decode nb_Q_element 6 = .ok (.aload_n 0, 1) := by decide +kernel
theorem nd_Q_element_7 : decode nb_Q_element 7 = .ok (.iload_n 2, 1) := by decide +kernel
theorem nd_Q_element_8 : decode nb_Q_element 8 = .ok (.iconst 5, 1) := by decide +kernel
theorem nd_Q_element_9 : decode nb_Q_element 9 = .ok (.iushr, 1) := by decide +kernel
theorem nd_Q_element_10 : decode nb_Q_element 10 = .ok (.invokevirtual 33, 3) := by decide +kernel
theorem nd_Q_element_13 : decode nb_Q_element 13 = .ok (.getfield 37, 3) := by decide +kernel
theorem nd_Q_element_16 : decode nb_Q_element 16 = .ok (.iload_n 2, 1) := by decide +kernel
theorem nd_Q_element_17 : decode nb_Q_element 17 = .ok (.bipush 31, 2) := by decide +kernel
theorem nd_Q_element_19 : decode nb_Q_element 19 = .ok (.iand, 1) := by decide +kernel
theorem nd_Q_element_20 : decode nb_Q_element 20 = .ok (.laload, 1) := by decide +kernel
theorem nd_Q_element_21 : decode nb_Q_element 21 = .ok (.lreturn, 1) := by decide +kernel
theorem nd_Q_replace_0 : decode nb_Q_replace 0 = .ok (.aload_n 0, 1) := by decide +kernel
theorem nd_Q_replace_1 : decode nb_Q_replace 1 = .ok (.aload_n 0, 1) := by decide +kernel
theorem nd_Q_replace_2 : decode nb_Q_replace 2 = .ok (.iload_n 1, 1) := by decide +kernel
theorem nd_Q_replace_3 : decode nb_Q_replace 3 = .ok (.invokevirtual 29, 3) := by decide +kernel
theorem nd_Q_replace_6 : decode nb_Q_replace 6 = .ok (.lload_n 2, 1) := by decide +kernel
theorem nd_Q_replace_7 : decode nb_Q_replace 7 = .ok (.invokevirtual 54, 3) := by decide +kernel
theorem nd_Q_replace_10 : decode nb_Q_replace 10 = .ok (.return_, 1) := by decide +kernel
theorem nd_L_at_0 : decode nb_L_at 0 = .ok (.aload_n 3, 1) := by decide +kernel
theorem nd_L_at_1 : decode nb_L_at 1 = .ok (.iconst 0, 1) := by decide +kernel
theorem nd_L_at_2 : decode nb_L_at 2 = .ok (.aload_n 0, 1) := by decide +kernel
theorem nd_L_at_3 : decode nb_L_at 3 = .ok (.iload_n 1, 1) := by decide +kernel
theorem nd_L_at_4 : decode nb_L_at 4 = .ok (.iload_n 2, 1) := by decide +kernel
theorem nd_L_at_5 : decode nb_L_at 5 = .ok (.invokevirtual 26, 3) := by decide +kernel
theorem nd_L_at_8 : decode nb_L_at 8 = .ok (.lastore, 1) := by decide +kernel
theorem nd_L_at_9 : decode nb_L_at 9 = .ok (.goto 11, 3) := by decide +kernel
theorem nd_L_at_12 : decode nb_L_at 12 = .ok (.astore 4, 2) := by decide +kernel
theorem nd_L_at_14 : decode nb_L_at 14 = .ok (.iconst 1, 1) := by decide +kernel
theorem nd_L_at_15 : decode nb_L_at 15 = .ok (.ireturn, 1) := by decide +kernel
theorem nd_L_at_16 : decode nb_L_at 16 = .ok (.astore 4, 2) := by decide +kernel
theorem nd_L_at_18 : decode nb_L_at 18 = .ok (.iconst 2, 1) := by decide +kernel
theorem nd_L_at_19 : decode nb_L_at 19 = .ok (.ireturn, 1) := by decide +kernel
theorem nd_L_at_20 : decode nb_L_at 20 = .ok (.iconst 0, 1) := by decide +kernel
theorem nd_L_at_21 : decode nb_L_at 21 = .ok (.ireturn, 1) := by decide +kernel
theorem nd_S_at_0 : decode nb_S_at 0 = .ok (.iload_n 1, 1) := by decide +kernel
theorem nd_S_at_1 : decode nb_S_at 1 = .ok (.invokestatic 30, 3) := by decide +kernel
theorem nd_S_at_4 : decode nb_S_at 4 = .ok (.aload_n 0, 1) := by decide +kernel
theorem nd_S_at_5 : decode nb_S_at 5 = .ok (.getfield 19, 3) := by decide +kernel
theorem nd_S_at_8 : decode nb_S_at 8 = .ok (.iload_n 1, 1) := by decide +kernel
theorem nd_S_at_9 : decode nb_S_at 9 = .ok (.aaload, 1) := by decide +kernel
theorem nd_S_at_10 : decode nb_S_at 10 = .ok (.iload_n 2, 1) := by decide +kernel
theorem nd_S_at_11 : decode nb_S_at 11 = .ok (.invokestatic 52, 3) := by decide +kernel
theorem nd_S_at_14 : decode nb_S_at 14 = .ok (.aload_n 0, 1) := by decide +kernel
theorem nd_S_at_15 : decode nb_S_at 15 = .ok (.getfield 19, 3) := by decide +kernel
theorem nd_S_at_18 : decode nb_S_at 18 = .ok (.iload_n 1, 1) := by decide +kernel
theorem nd_S_at_19 : decode nb_S_at 19 = .ok (.aaload, 1) := by decide +kernel
theorem nd_S_at_20 : decode nb_S_at 20 = .ok (.iload_n 2, 1) := by decide +kernel
theorem nd_S_at_21 : decode nb_S_at 21 = .ok (.invokevirtual 56, 3) := by decide +kernel
theorem nd_S_at_24 : decode nb_S_at 24 = .ok (.lreturn, 1) := by decide +kernel
theorem nd_L_cut_0 : decode nb_L_cut 0 = .ok (.aload 5, 2) := by decide +kernel
theorem nd_L_cut_2 : decode nb_L_cut 2 = .ok (.iconst 0, 1) := by decide +kernel
theorem nd_L_cut_3 : decode nb_L_cut 3 = .ok (.aload_n 0, 1) := by decide +kernel
theorem nd_L_cut_4 : decode nb_L_cut 4 = .ok (.iload_n 1, 1) := by decide +kernel
theorem nd_L_cut_5 : decode nb_L_cut 5 = .ok (.iload_n 2, 1) := by decide +kernel
theorem nd_L_cut_6 : decode nb_L_cut 6 = .ok (.iload_n 3, 1) := by decide +kernel
theorem nd_L_cut_7 : decode nb_L_cut 7 = .ok (.iload 4, 2) := by decide +kernel
theorem nd_L_cut_9 : decode nb_L_cut 9 = .ok (.invokevirtual 30, 3) := by decide +kernel
theorem nd_L_cut_12 : decode nb_L_cut 12 = .ok (.i2l, 1) := by decide +kernel
theorem nd_L_cut_13 : decode nb_L_cut 13 = .ok (.lastore, 1) := by decide +kernel
theorem nd_L_cut_14 : decode nb_L_cut 14 = .ok (.goto 11, 3) := by decide +kernel
theorem nd_L_cut_17 : decode nb_L_cut 17 = .ok (.astore 6, 2) := by decide +kernel
theorem nd_L_cut_19 : decode nb_L_cut 19 = .ok (.iconst 1, 1) := by decide +kernel
theorem nd_L_cut_20 : decode nb_L_cut 20 = .ok (.ireturn, 1) := by decide +kernel
theorem nd_L_cut_21 : decode nb_L_cut 21 = .ok (.astore 6, 2) := by decide +kernel
theorem nd_L_cut_23 : decode nb_L_cut 23 = .ok (.iconst 2, 1) := by decide +kernel
theorem nd_L_cut_24 : decode nb_L_cut 24 = .ok (.ireturn, 1) := by decide +kernel
theorem nd_L_cut_25 : decode nb_L_cut 25 = .ok (.iconst 0, 1) := by decide +kernel
theorem nd_L_cut_26 : decode nb_L_cut 26 = .ok (.ireturn, 1) := by decide +kernel
theorem nd_S_cut_0 : decode nb_S_cut 0 = .ok (.iload_n 1, 1) := by decide +kernel
theorem nd_S_cut_1 : decode nb_S_cut 1 = .ok (.invokestatic 30, 3) := by decide +kernel
theorem nd_S_cut_4 : decode nb_S_cut 4 = .ok (.iload_n 2, 1) := by decide +kernel
theorem nd_S_cut_5 : decode nb_S_cut 5 = .ok (.invokestatic 30, 3) := by decide +kernel
theorem nd_S_cut_8 : decode nb_S_cut 8 = .ok (.iload_n 3, 1) := by decide +kernel
theorem nd_S_cut_9 : decode nb_S_cut 9 = .ok (.invokestatic 64, 3) := by decide +kernel
theorem nd_S_cut_12 : decode nb_S_cut 12 = .ok (.iload 4, 2) := by decide +kernel
theorem nd_S_cut_14 : decode nb_S_cut 14 = .ok (.invokestatic 64, 3) := by decide +kernel
theorem nd_S_cut_17 : decode nb_S_cut 17 = .ok (.iload_n 3, 1) := by decide +kernel
theorem nd_S_cut_18 : decode nb_S_cut 18 = .ok (.i2l, 1) := by decide +kernel
theorem nd_S_cut_19 : decode nb_S_cut 19 = .ok (.iload 4, 2) := by decide +kernel
theorem nd_S_cut_21 : decode nb_S_cut 21 = .ok (.i2l, 1) := by decide +kernel
theorem nd_S_cut_22 : decode nb_S_cut 22 = .ok (.ladd, 1) := by decide +kernel
theorem nd_S_cut_23 : decode nb_S_cut 23 = .ok (.aload_n 0, 1) := by decide +kernel
theorem nd_S_cut_24 : decode nb_S_cut 24 = .ok (.getfield 19, 3) := by decide +kernel
theorem nd_S_cut_27 : decode nb_S_cut 27 = .ok (.iload_n 2, 1) := by decide +kernel
theorem nd_S_cut_28 : decode nb_S_cut 28 = .ok (.aaload, 1) := by decide +kernel
theorem nd_S_cut_29 : decode nb_S_cut 29 = .ok (.getfield 46, 3) := by decide +kernel
theorem nd_S_cut_32 : decode nb_S_cut 32 = .ok (.i2l, 1) := by decide +kernel
theorem nd_S_cut_33 : decode nb_S_cut 33 = .ok (.lcmp, 1) := by decide +kernel
theorem nd_S_cut_34 : decode nb_S_cut 34 = .ok (.ifCond .le 13, 3) := by decide +kernel
theorem nd_S_cut_37 : decode nb_S_cut 37 = .ok (.new 67, 3) := by decide +kernel
theorem nd_S_cut_40 : decode nb_S_cut 40 = .ok (.dup, 1) := by decide +kernel
theorem nd_S_cut_41 : decode nb_S_cut 41 = .ok (.ldc 69, 2) := by decide +kernel
theorem nd_S_cut_43 : decode nb_S_cut 43 = .ok (.invokespecial 71, 3) := by decide +kernel
theorem nd_S_cut_46 : decode nb_S_cut 46 = .ok (.athrow, 1) := by decide +kernel
theorem nd_S_cut_47 : decode nb_S_cut 47 = .ok (.aload_n 0, 1) := by decide +kernel
theorem nd_S_cut_48 : decode nb_S_cut 48 = .ok (.aload_n 0, 1) := by decide +kernel
theorem nd_S_cut_49 : decode nb_S_cut 49 = .ok (.getfield 19, 3) := by decide +kernel
theorem nd_S_cut_52 : decode nb_S_cut 52 = .ok (.iload_n 2, 1) := by decide +kernel
theorem nd_S_cut_53 : decode nb_S_cut 53 = .ok (.aaload, 1) := by decide +kernel
theorem nd_S_cut_54 : decode nb_S_cut 54 = .ok (.invokevirtual 38, 3) := by decide +kernel
theorem nd_S_cut_57 : decode nb_S_cut 57 = .ok (.astore 5, 2) := by decide +kernel
theorem nd_S_cut_59 : decode nb_S_cut 59 = .ok (.aload 5, 2) := by decide +kernel
theorem nd_S_cut_61 : decode nb_S_cut 61 = .ok (.iload_n 3, 1) := by decide +kernel
theorem nd_S_cut_62 : decode nb_S_cut 62 = .ok (.iload 4, 2) := by decide +kernel
theorem nd_S_cut_64 : decode nb_S_cut 64 = .ok (.invokevirtual 74, 3) := by decide +kernel
theorem nd_S_cut_67 : decode nb_S_cut 67 = .ok (.aload_n 0, 1) := by decide +kernel
theorem nd_S_cut_68 : decode nb_S_cut 68 = .ok (.getfield 19, 3) := by decide +kernel
theorem nd_S_cut_71 : decode nb_S_cut 71 = .ok (.iload_n 1, 1) := by decide +kernel
theorem nd_S_cut_72 : decode nb_S_cut 72 = .ok (.aload 5, 2) := by decide +kernel
theorem nd_S_cut_74 : decode nb_S_cut 74 = .ok (.aastore, 1) := by decide +kernel
theorem nd_S_cut_75 : decode nb_S_cut 75 = .ok (.aload 5, 2) := by decide +kernel
theorem nd_S_cut_77 : decode nb_S_cut 77 = .ok (.getfield 46, 3) := by decide +kernel
theorem nd_S_cut_80 : decode nb_S_cut 80 = .ok (.ireturn, 1) := by decide +kernel
theorem nd_S_checkNotNegative_0 : decode nb_S_checkNotNegative 0 = .ok (.iload_n 0, 1) := by decide +kernel
theorem nd_S_checkNotNegative_1 : decode nb_S_checkNotNegative 1 = .ok (.ifCond .ge 13, 3) := by decide +kernel
theorem nd_S_checkNotNegative_4 : decode nb_S_checkNotNegative 4 = .ok (.new 108, 3) := by decide +kernel
theorem nd_S_checkNotNegative_7 : decode nb_S_checkNotNegative 7 = .ok (.dup, 1) := by decide +kernel
theorem nd_S_checkNotNegative_8 : decode nb_S_checkNotNegative 8 = .ok (.ldc 113, 2) := by decide +kernel
theorem nd_S_checkNotNegative_10 : decode nb_S_checkNotNegative 10 = .ok (.invokespecial 112, 3) := by decide +kernel
theorem nd_S_checkNotNegative_13 : decode nb_S_checkNotNegative 13 = .ok (.athrow, 1) := by decide +kernel
theorem nd_S_checkNotNegative_14 : decode nb_S_checkNotNegative 14 = .ok (.return_, 1) := by decide +kernel
theorem nd_Q_trim_0 : decode nb_Q_trim 0 = .ok (.aload_n 0, 1) := by decide +kernel
theorem nd_Q_trim_1 : decode nb_Q_trim 1 = .ok (.invokevirtual 43, 3) := by decide +kernel
theorem nd_Q_trim_4 : decode nb_Q_trim 4 = .ok (.istore_n 3, 1) := by decide +kernel
theorem nd_Q_trim_5 : decode nb_Q_trim 5 = .ok (.aload_n 0, 1) := by decide +kernel
theorem nd_Q_trim_6 : decode nb_Q_trim 6 = .ok (.aload_n 0, 1) := by decide +kernel
theorem nd_Q_trim_7 : decode nb_Q_trim 7 = .ok (.iload_n 1, 1) := by decide +kernel
theorem nd_Q_trim_8 : decode nb_Q_trim 8 = .ok (.invokevirtual 29, 3) := by decide +kernel
theorem nd_Q_trim_11 : decode nb_Q_trim 11 = .ok (.putfield 23, 3) := by decide +kernel
theorem nd_Q_trim_14 : decode nb_Q_trim 14 = .ok (.aload_n 0, 1) := by decide +kernel
theorem nd_Q_trim_15 : decode nb_Q_trim 15 = .ok (.dup, 1) := by decide +kernel
theorem nd_Q_trim_16 : decode nb_Q_trim 16 = .ok (.getfield 26, 3) := by decide +kernel
theorem nd_Q_trim_19 : decode nb_Q_trim 19 = .ok (.iload_n 1, 1) := by decide +kernel
theorem nd_Q_trim_20 : decode nb_Q_trim 20 = .ok (.iload_n 2, 1) := by decide +kernel
theorem nd_Q_trim_21 : decode nb_Q_trim 21 = .ok (.iadd, 1) := by decide +kernel
theorem nd_Q_trim_22 : decode nb_Q_trim 22 = .ok (.isub, 1) := by decide +kernel
theorem nd_Q_trim_23 : decode nb_Q_trim 23 = .ok (.putfield 26, 3) := by decide +kernel
theorem nd_Q_trim_26 : decode nb_Q_trim 26 = .ok (.aload_n 0, 1) := by decide +kernel
theorem nd_Q_trim_27 : decode nb_Q_trim 27 = .ok (.invokevirtual 43, 3) := by decide +kernel
theorem nd_Q_trim_30 : decode nb_Q_trim 30 = .ok (.iload_n 3, 1) := by decide +kernel
theorem nd_Q_trim_31 : decode nb_Q_trim 31 = .ok (.if_icmp .eq 18, 3) := by decide +kernel
theorem nd_Q_trim_34 : decode nb_Q_trim 34 = .ok (.aload_n 0, 1) := by decide +kernel
theorem nd_Q_trim_35 : decode nb_Q_trim 35 = .ok (.aload_n 0, 1) := by decide +kernel
theorem nd_Q_trim_36 : decode nb_Q_trim 36 = .ok (.getfield 15, 3) := by decide +kernel
theorem nd_Q_trim_39 : decode nb_Q_trim 39 = .ok (.aload_n 0, 1) := by decide +kernel
theorem nd_Q_trim_40 : decode nb_Q_trim 40 = .ok (.invokevirtual 43, 3) := by decide +kernel
theorem nd_Q_trim_43 : decode nb_Q_trim 43 = .ok (.invokevirtual 51, 3) := by decide +kernel
theorem nd_Q_trim_46 : decode nb_Q_trim 46 = .ok (.putfield 19, 3) := by decide +kernel
theorem nd_Q_trim_49 : decode nb_Q_trim 49 = .ok (.return_, 1) := by decide +kernel
theorem nd_L_fill_0 : decode nb_L_fill 0 = .ok (.aload 7, 2) := by decide +kernel
theorem nd_L_fill_2 : decode nb_L_fill 2 = .ok (.iconst 0, 1) := by decide +kernel
theorem nd_L_fill_3 : decode nb_L_fill 3 = .ok (.aload_n 0, 1) := by decide +kernel
theorem nd_L_fill_4 : decode nb_L_fill 4 = .ok (.iload_n 1, 1) := by decide +kernel
theorem nd_L_fill_5 : decode nb_L_fill 5 = .ok (.lload_n 2, 1) := by decide +kernel
theorem nd_L_fill_6 : decode nb_L_fill 6 = .ok (.lload 4, 2) := by decide +kernel
theorem nd_L_fill_8 : decode nb_L_fill 8 = .ok (.iload 6, 2) := by decide +kernel
theorem nd_L_fill_10 : decode nb_L_fill 10 = .ok (.invokevirtual 34, 3) := by decide +kernel
theorem nd_L_fill_13 : decode nb_L_fill 13 = .ok (.i2l, 1) := by decide +kernel
theorem nd_L_fill_14 : decode nb_L_fill 14 = .ok (.lastore, 1) := by decide +kernel
theorem nd_L_fill_15 : decode nb_L_fill 15 = .ok (.goto 7, 3) := by decide +kernel
theorem nd_L_fill_18 : decode nb_L_fill 18 = .ok (.astore 8, 2) := by decide +kernel
theorem nd_L_fill_20 : decode nb_L_fill 20 = .ok (.iconst 1, 1) := by decide +kernel
theorem nd_L_fill_21 : decode nb_L_fill 21 = .ok (.ireturn, 1) := by decide +kernel
theorem nd_L_fill_22 : decode nb_L_fill 22 = .ok (.iconst 0, 1) := by decide +kernel
theorem nd_L_fill_23 : decode nb_L_fill 23 = .ok (.ireturn, 1) := by decide +kernel
theorem nd_S_fill_0 : decode nb_S_fill 0 = .ok (.iload_n 1, 1) := by decide +kernel
theorem nd_S_fill_1 : decode nb_S_fill 1 = .ok (.invokestatic 30, 3) := by decide +kernel
theorem nd_S_fill_4 : decode nb_S_fill 4 = .ok (.iload 6, 2) := by decide +kernel
theorem nd_S_fill_6 : decode nb_S_fill 6 = .ok (.iconst 0, 1) := by decide +kernel
theorem nd_S_fill_7 : decode nb_S_fill 7 = .ok (.sipush 2000, 3) := by decide +kernel
theorem nd_S_fill_10 : decode nb_S_fill 10 = .ok (.invokestatic 78, 3) := by decide +kernel
theorem nd_S_fill_13 : decode nb_S_fill 13 = .ok (.aload_n 0, 1) := by decide +kernel
theorem nd_S_fill_14 : decode nb_S_fill 14 = .ok (.aload_n 0, 1) := by decide +kernel
theorem nd_S_fill_15 : decode nb_S_fill 15 = .ok (.getfield 13, 3) := by decide +kernel
theorem nd_S_fill_18 : decode nb_S_fill 18 = .ok (.invokevirtual 38, 3) := by decide +kernel
theorem nd_S_fill_21 : decode nb_S_fill 21 = .ok (.astore 7, 2) := by decide +kernel
theorem nd_S_fill_23 : decode nb_S_fill 23 = .ok (.lload_n 2, 1) := by decide +kernel
theorem nd_S_fill_24 : decode nb_S_fill 24 = .ok (.lstore 8, 2) := by decide +kernel
theorem nd_S_fill_26 : decode nb_S_fill 26 = .ok (.iconst 0, 1) := by decide +kernel
theorem nd_S_fill_27 : decode nb_S_fill 27 = .ok (.istore 10, 2) := by decide +kernel
theorem nd_S_fill_29 : decode nb_S_fill 29 = .ok (.iload 10, 2) := by decide +kernel
theorem nd_S_fill_31 : decode nb_S_fill 31 = .ok (.iload 6, 2) := by decide +kernel
theorem nd_S_fill_33 : decode nb_S_fill 33 = .ok (.if_icmp .ge 23, 3) := by decide +kernel
theorem nd_S_fill_36 : decode nb_S_fill 36 = .ok (.aload 7, 2) := by decide +kernel
theorem nd_S_fill_38 : decode nb_S_fill 38 = .ok (.lload 8, 2) := by decide +kernel
theorem nd_S_fill_40 : decode nb_S_fill 40 = .ok (.invokevirtual 42, 3) := by decide +kernel
theorem nd_S_fill_43 : decode nb_S_fill 43 = .ok (.lload 8, 2) := by decide +kernel
theorem nd_S_fill_45 : decode nb_S_fill 45 = .ok (.lload 4, 2) := by decide +kernel
theorem nd_S_fill_47 : decode nb_S_fill 47 = .ok (.ladd, 1) := by decide +kernel
theorem nd_S_fill_48 : decode nb_S_fill 48 = .ok (.lstore 8, 2) := by decide +kernel
theorem nd_S_fill_50 : decode nb_S_fill 50 = .ok (.iinc 10 1, 3) := by decide +kernel
theorem nd_S_fill_53 : decode nb_S_fill 53 = .ok (.goto (-24), 3) := by decide +kernel
theorem nd_S_fill_56 : decode nb_S_fill 56 = .ok (.aload_n 0, 1) := by decide +kernel
theorem nd_S_fill_57 : decode nb_S_fill 57 = .ok (.getfield 19, 3) := by decide +kernel
theorem nd_S_fill_60 : decode nb_S_fill 60 = .ok (.iload_n 1, 1) := by decide +kernel
theorem nd_S_fill_61 : decode nb_S_fill 61 = .ok (.aload 7, 2) := by decide +kernel
theorem nd_S_fill_63 : decode nb_S_fill 63 = .ok (.aastore, 1) := by decide +kernel
theorem nd_S_fill_64 : decode nb_S_fill 64 = .ok (.iload 6, 2) := by decide +kernel
theorem nd_S_fill_66 : decode nb_S_fill 66 = .ok (.ireturn, 1) := by decide +kernel
theorem nd_L_size_0 : decode nb_L_size 0 = .ok (.aload_n 2, 1) := by decide +kernel
theorem nd_L_size_1 : decode nb_L_size 1 = .ok (.iconst 0, 1) := by decide +kernel
theorem nd_L_size_2 : decode nb_L_size 2 = .ok (.aload_n 0, 1) := by decide +kernel
theorem nd_L_size_3 : decode nb_L_size 3 = .ok (.iload_n 1, 1) := by decide +kernel
theorem nd_L_size_4 : decode nb_L_size 4 = .ok (.invokevirtual 38, 3) := by decide +kernel
theorem nd_L_size_7 : decode nb_L_size 7 = .ok (.i2l, 1) := by decide +kernel
theorem nd_L_size_8 : decode nb_L_size 8 = .ok (.lastore, 1) := by decide +kernel
theorem nd_L_size_9 : decode nb_L_size 9 = .ok (.goto 6, 3) := by decide +kernel
theorem nd_L_size_12 : decode nb_L_size 12 = .ok (.astore_n 3, 1) := by decide +kernel
theorem nd_L_size_13 : decode nb_L_size 13 = .ok (.iconst 1, 1) := by decide +kernel
theorem nd_L_size_14 : decode nb_L_size 14 = .ok (.ireturn, 1) := by decide +kernel
theorem nd_L_size_15 : decode nb_L_size 15 = .ok (.iconst 0, 1) := by decide +kernel
theorem nd_L_size_16 : decode nb_L_size 16 = .ok (.ireturn, 1) := by decide +kernel
theorem nd_S_size_0 : decode nb_S_size 0 = .ok (.iload_n 1, 1) := by decide +kernel
theorem nd_S_size_1 : decode nb_S_size 1 = .ok (.invokestatic 30, 3) := by decide +kernel
theorem nd_S_size_4 : decode nb_S_size 4 = .ok (.aload_n 0, 1) := by decide +kernel
theorem nd_S_size_5 : decode nb_S_size 5 = .ok (.getfield 19, 3) := by decide +kernel
theorem nd_S_size_8 : decode nb_S_size 8 = .ok (.iload_n 1, 1) := by decide +kernel
theorem nd_S_size_9 : decode nb_S_size 9 = .ok (.aaload, 1) := by decide +kernel
theorem nd_S_size_10 : decode nb_S_size 10 = .ok (.getfield 46, 3) := by decide +kernel
theorem nd_S_size_13 : decode nb_S_size 13 = .ok (.ireturn, 1) := by decide +kernel
theorem nd_L_hash_0 : decode nb_L_hash 0 = .ok (.aload_n 2, 1) := by decide +kernel
theorem nd_L_hash_1 : decode nb_L_hash 1 = .ok (.iconst 0, 1) := by decide +kernel
theorem nd_L_hash_2 : decode nb_L_hash 2 = .ok (.aload_n 0, 1) := by decide +kernel
theorem nd_L_hash_3 : decode nb_L_hash 3 = .ok (.iload_n 1, 1) := by decide +kernel
theorem nd_L_hash_4 : decode nb_L_hash 4 = .ok (.invokevirtual 42, 3) := by decide +kernel
theorem nd_L_hash_7 : decode nb_L_hash 7 = .ok (.lastore, 1) := by decide +kernel
theorem nd_L_hash_8 : decode nb_L_hash 8 = .ok (.goto 6, 3) := by decide +kernel
theorem nd_L_hash_11 : decode nb_L_hash 11 = .ok (.astore_n 3, 1) := by decide +kernel
theorem nd_L_hash_12 : decode nb_L_hash 12 = .ok (.iconst 1, 1) := by decide +kernel
theorem nd_L_hash_13 : decode nb_L_hash 13 = .ok (.ireturn, 1) := by decide +kernel
theorem nd_L_hash_14 : decode nb_L_hash 14 = .ok (.iconst 0, 1) := by decide +kernel
theorem nd_L_hash_15 : decode nb_L_hash 15 = .ok (.ireturn, 1) := by decide +kernel
theorem nd_S_hash_0 : decode nb_S_hash 0 = .ok (.iload_n 1, 1) := by decide +kernel
theorem nd_S_hash_1 : decode nb_S_hash 1 = .ok (.invokestatic 30, 3) := by decide +kernel
theorem nd_S_hash_4 : decode nb_S_hash 4 = .ok (.aload_n 0, 1) := by decide +kernel
theorem nd_S_hash_5 : decode nb_S_hash 5 = .ok (.getfield 19, 3) := by decide +kernel
theorem nd_S_hash_8 : decode nb_S_hash 8 = .ok (.iload_n 1, 1) := by decide +kernel
theorem nd_S_hash_9 : decode nb_S_hash 9 = .ok (.aaload, 1) := by decide +kernel
theorem nd_S_hash_10 : decode nb_S_hash 10 = .ok (.astore_n 2, 1) := by decide +kernel
theorem nd_S_hash_11 : decode nb_S_hash 11 = .ok (.lconst 1, 1) := by decide +kernel
theorem nd_S_hash_12 : decode nb_S_hash 12 = .ok (.lstore_n 3, 1) := by decide +kernel
theorem nd_S_hash_13 : decode nb_S_hash 13 = .ok (.iconst 0, 1) := by decide +kernel
theorem nd_S_hash_14 : decode nb_S_hash 14 = .ok (.istore 5, 2) := by decide +kernel
theorem nd_S_hash_16 : decode nb_S_hash 16 = .ok (.iload 5, 2) := by decide +kernel
theorem nd_S_hash_18 : decode nb_S_hash 18 = .ok (.aload_n 2, 1) := by decide +kernel
theorem nd_S_hash_19 : decode nb_S_hash 19 = .ok (.getfield 46, 3) := by decide +kernel
theorem nd_S_hash_22 : decode nb_S_hash 22 = .ok (.if_icmp .ge 22, 3) := by decide +kernel
theorem nd_S_hash_25 : decode nb_S_hash 25 = .ok (.ldc2_w 82, 3) := by decide +kernel
theorem nd_S_hash_28 : decode nb_S_hash 28 = .ok (.lload_n 3, 1) := by decide +kernel
theorem nd_S_hash_29 : decode nb_S_hash 29 = .ok (.lmul, 1) := by decide +kernel
theorem nd_S_hash_30 : decode nb_S_hash 30 = .ok (.aload_n 2, 1) := by decide +kernel
theorem nd_S_hash_31 : decode nb_S_hash 31 = .ok (.iload 5, 2) := by decide +kernel
theorem nd_S_hash_33 : decode nb_S_hash 33 = .ok (.invokevirtual 56, 3) := by decide +kernel
theorem nd_S_hash_36 : decode nb_S_hash 36 = .ok (.ladd, 1) := by decide +kernel
theorem nd_S_hash_37 : decode nb_S_hash 37 = .ok (.lstore_n 3, 1) := by decide +kernel
theorem nd_S_hash_38 : decode nb_S_hash 38 = .ok (.iinc 5 1, 3) := by decide +kernel
theorem nd_S_hash_41 : decode nb_S_hash 41 = .ok (.goto (-25), 3) := by decide +kernel
theorem nd_S_hash_44 : decode nb_S_hash 44 = .ok (.lload_n 3, 1) := by decide +kernel
theorem nd_S_hash_45 : decode nb_S_hash 45 = .ok (.lreturn, 1) := by decide +kernel
theorem nd_L_open_0 : decode nb_L_open 0 = .ok (.aload_n 0, 1) := by decide +kernel
theorem nd_L_open_1 : decode nb_L_open 1 = .ok (.iload_n 1, 1) := by decide +kernel
theorem nd_L_open_2 : decode nb_L_open 2 = .ok (.invokevirtual 46, 3) := by decide +kernel
theorem nd_L_open_5 : decode nb_L_open 5 = .ok (.goto 9, 3) := by decide +kernel
theorem nd_L_open_8 : decode nb_L_open 8 = .ok (.astore_n 2, 1) := by decide +kernel
theorem nd_L_open_9 : decode nb_L_open 9 = .ok (.iconst 1, 1) := by decide +kernel
theorem nd_L_open_10 : decode nb_L_open 10 = .ok (.ireturn, 1) := by decide +kernel
theorem nd_L_open_11 : decode nb_L_open 11 = .ok (.astore_n 2, 1) := by decide +kernel
theorem nd_L_open_12 : decode nb_L_open 12 = .ok (.iconst 2, 1) := by decide +kernel
theorem nd_L_open_13 : decode nb_L_open 13 = .ok (.ireturn, 1) := by decide +kernel
theorem nd_L_open_14 : decode nb_L_open 14 = .ok (.iconst 0, 1) := by decide +kernel
theorem nd_L_open_15 : decode nb_L_open 15 = .ok (.ireturn, 1) := by decide +kernel
theorem nd_S_open_0 : decode nb_S_open 0 = .ok (.iload_n 1, 1) := by decide +kernel
theorem nd_S_open_1 : decode nb_S_open 1 = .ok (.invokestatic 30, 3) := by decide +kernel
theorem nd_S_open_4 : decode nb_S_open 4 = .ok (.aload_n 0, 1) := by decide +kernel
theorem nd_S_open_5 : decode nb_S_open 5 = .ok (.getfield 23, 3) := by decide +kernel
theorem nd_S_open_8 : decode nb_S_open 8 = .ok (.ifnull 13, 3) := by decide +kernel
theorem nd_S_open_11 : decode nb_S_open 11 = .ok (.new 84, 3) := by decide +kernel
theorem nd_S_open_14 : decode nb_S_open 14 = .ok (.dup, 1) := by decide +kernel
theorem nd_S_open_15 : decode nb_S_open 15 = .ok (.ldc 86, 2) := by decide +kernel
theorem nd_S_open_17 : decode nb_S_open 17 = .ok (.invokespecial 88, 3) := by decide +kernel
theorem nd_S_open_20 : decode nb_S_open 20 = .ok (.athrow, 1) := by decide +kernel
theorem nd_S_open_21 : decode nb_S_open 21 = .ok (.aload_n 0, 1) := by decide +kernel
theorem nd_S_open_22 : decode nb_S_open 22 = .ok (.aload_n 0, 1) := by decide +kernel
theorem nd_S_open_23 : decode nb_S_open 23 = .ok (.aload_n 0, 1) := by decide +kernel
theorem nd_S_open_24 : decode nb_S_open 24 = .ok (.getfield 19, 3) := by decide +kernel
theorem nd_S_open_27 : decode nb_S_open 27 = .ok (.iload_n 1, 1) := by decide +kernel
theorem nd_S_open_28 : decode nb_S_open 28 = .ok (.aaload, 1) := by decide +kernel
theorem nd_S_open_29 : decode nb_S_open 29 = .ok (.invokevirtual 38, 3) := by decide +kernel
theorem nd_S_open_32 : decode nb_S_open 32 = .ok (.putfield 23, 3) := by decide +kernel
theorem nd_S_open_35 : decode nb_S_open 35 = .ok (.return_, 1) := by decide +kernel
theorem nd_L_build_0 : decode nb_L_build 0 = .ok (.aload 5, 2) := by decide +kernel
theorem nd_L_build_2 : decode nb_L_build 2 = .ok (.iconst 0, 1) := by decide +kernel
theorem nd_L_build_3 : decode nb_L_build 3 = .ok (.aload_n 0, 1) := by decide +kernel
theorem nd_L_build_4 : decode nb_L_build 4 = .ok (.iload_n 1, 1) := by decide +kernel
theorem nd_L_build_5 : decode nb_L_build 5 = .ok (.iload_n 2, 1) := by decide +kernel
theorem nd_L_build_6 : decode nb_L_build 6 = .ok (.lload_n 3, 1) := by decide +kernel
theorem nd_L_build_7 : decode nb_L_build 7 = .ok (.invokevirtual 52, 3) := by decide +kernel
theorem nd_L_build_10 : decode nb_L_build 10 = .ok (.i2l, 1) := by decide +kernel
theorem nd_L_build_11 : decode nb_L_build 11 = .ok (.lastore, 1) := by decide +kernel
theorem nd_L_build_12 : decode nb_L_build 12 = .ok (.goto 19, 3) := by decide +kernel
theorem nd_L_build_15 : decode nb_L_build 15 = .ok (.astore 6, 2) := by decide +kernel
theorem nd_L_build_17 : decode nb_L_build 17 = .ok (.iconst 1, 1) := by decide +kernel
theorem nd_L_build_18 : decode nb_L_build 18 = .ok (.ireturn, 1) := by decide +kernel
theorem nd_L_build_19 : decode nb_L_build 19 = .ok (.astore 6, 2) := by decide +kernel
theorem nd_L_build_21 : decode nb_L_build 21 = .ok (.iconst 2, 1) := by decide +kernel
theorem nd_L_build_22 : decode nb_L_build 22 = .ok (.ireturn, 1) := by decide +kernel
theorem nd_L_build_23 : decode nb_L_build 23 = .ok (.astore 6, 2) := by decide +kernel
theorem nd_L_build_25 : decode nb_L_build 25 = .ok (.iconst 3, 1) := by decide +kernel
theorem nd_L_build_26 : decode nb_L_build 26 = .ok (.ireturn, 1) := by decide +kernel
theorem nd_L_build_27 : decode nb_L_build 27 = .ok (.astore 6, 2) := by decide +kernel
theorem nd_L_build_29 : decode nb_L_build 29 = .ok (.iconst 4, 1) := by decide +kernel
theorem nd_L_build_30 : decode nb_L_build 30 = .ok (.ireturn, 1) := by decide +kernel
theorem nd_L_build_31 : decode nb_L_build 31 = .ok (.iconst 0, 1) := by decide +kernel
theorem nd_L_build_32 : decode nb_L_build 32 = .ok (.ireturn, 1) := by decide +kernel
theorem nd_S_build_0 : decode nb_S_build 0 = .ok (.iload_n 1, 1) := by decide +kernel
theorem nd_S_build_1 : decode nb_S_build 1 = .ok (.iconst 0, 1) := by decide +kernel
theorem nd_S_build_2 : decode nb_S_build 2 = .ok (.iconst 2, 1) := by decide +kernel
theorem nd_S_build_3 : decode nb_S_build 3 = .ok (.invokestatic 78, 3) := by decide +kernel
theorem nd_S_build_6 : decode nb_S_build 6 = .ok (.aload_n 0, 1) := by decide +kernel
theorem nd_S_build_7 : decode nb_S_build 7 = .ok (.invokevirtual 89, 3) := by decide +kernel
theorem nd_S_build_10 : decode nb_S_build 10 = .ok (.astore 5, 2) := by decide +kernel
theorem nd_S_build_12 : decode nb_S_build 12 = .ok (.iload_n 1, 1) := by decide +kernel
theorem nd_S_build_13 : decode nb_S_build 13 = .ok (.ifCond .ne 17, 3) := by decide +kernel
theorem nd_S_build_16 : decode nb_S_build 16 = .ok (.aload 5, 2) := by decide +kernel
theorem nd_S_build_18 : decode nb_S_build 18 = .ok (.invokestatic 34, 3) := by decide +kernel
theorem nd_S_build_21 : decode nb_S_build 21 = .ok (.aload 5, 2) := by decide +kernel
theorem nd_S_build_23 : decode nb_S_build 23 = .ok (.lload_n 3, 1) := by decide +kernel
theorem nd_S_build_24 : decode nb_S_build 24 = .ok (.invokevirtual 42, 3) := by decide +kernel
theorem nd_S_build_27 : decode nb_S_build 27 = .ok (.goto 37, 3) := by decide +kernel
theorem nd_S_build_30 : decode nb_S_build 30 = .ok (.iload_n 1, 1) := by decide +kernel
theorem nd_S_build_31 : decode nb_S_build 31 = .ok (.iconst 1, 1) := by decide +kernel
theorem nd_S_build_32 : decode nb_S_build 32 = .ok (.if_icmp .ne 19, 3) := by decide +kernel
theorem nd_S_build_35 : decode nb_S_build 35 = .ok (.aload 5, 2) := by decide +kernel
theorem nd_S_build_37 : decode nb_S_build 37 = .ok (.iload_n 2, 1) := by decide +kernel
theorem nd_S_build_38 : decode nb_S_build 38 = .ok (.invokestatic 52, 3) := by decide +kernel
theorem nd_S_build_41 : decode nb_S_build 41 = .ok (.aload 5, 2) := by decide +kernel
theorem nd_S_build_43 : decode nb_S_build 43 = .ok (.iload_n 2, 1) := by decide +kernel
theorem nd_S_build_44 : decode nb_S_build 44 = .ok (.lload_n 3, 1) := by decide +kernel
theorem nd_S_build_45 : decode nb_S_build 45 = .ok (.invokevirtual 60, 3) := by decide +kernel
theorem nd_S_build_48 : decode nb_S_build 48 = .ok (.goto 16, 3) := by decide +kernel
theorem nd_S_build_51 : decode nb_S_build 51 = .ok (.aload 5, 2) := by decide +kernel
theorem nd_S_build_53 : decode nb_S_build 53 = .ok (.iconst 0, 1) := by decide +kernel
theorem nd_S_build_54 : decode nb_S_build 54 = .ok (.invokestatic 52, 3) := by decide +kernel
theorem nd_S_build_57 : decode nb_S_build 57 = .ok (.aload 5, 2) := by decide +kernel
theorem nd_S_build_59 : decode nb_S_build 59 = .ok (.iconst 0, 1) := by decide +kernel
theorem nd_S_build_60 : decode nb_S_build 60 = .ok (.iconst 1, 1) := by decide +kernel
theorem nd_S_build_61 : decode nb_S_build 61 = .ok (.invokevirtual 74, 3) := by decide +kernel
theorem nd_S_build_64 : decode nb_S_build 64 = .ok (.aload 5, 2) := by decide +kernel
theorem nd_S_build_66 : decode nb_S_build 66 = .ok (.getfield 46, 3) := by decide +kernel
theorem nd_S_build_69 : decode nb_S_build 69 = .ok (.ireturn, 1) := by decide +kernel
theorem nd_S_presentBuilder_0 : decode nb_S_presentBuilder 0 = .ok (.aload_n 0, 1) := by decide +kernel
theorem nd_S_presentBuilder_1 : decode nb_S_presentBuilder 1 = .ok (.getfield 23, 3) := by decide +kernel
theorem nd_S_presentBuilder_4 : decode nb_S_presentBuilder 4 = .ok (.ifnonnull 13, 3) := by decide +kernel
theorem nd_S_presentBuilder_7 : decode nb_S_presentBuilder 7 = .ok (.new 84, 3) := by decide +kernel
theorem nd_S_presentBuilder_10 : decode nb_S_presentBuilder 10 = .ok (.dup, 1) := by decide +kernel
theorem nd_S_presentBuilder_11 : decode nb_S_presentBuilder 11 = .ok (.ldc 92, 2) := by decide +kernel
theorem nd_S_presentBuilder_13 : decode nb_S_presentBuilder 13 = .ok (.invokespecial 88, 3) := by decide +kernel
theorem nd_S_presentBuilder_16 : decode nb_S_presentBuilder 16 = .ok (.athrow, 1) := by decide +kernel
theorem nd_S_presentBuilder_17 : decode nb_S_presentBuilder 17 = .ok (.aload_n 0, 1) := by decide +kernel
theorem nd_S_presentBuilder_18 : decode nb_S_presentBuilder 18 = .ok (.getfield 23, 3) := by decide +kernel
theorem nd_S_presentBuilder_21 : decode nb_S_presentBuilder 21 = .ok (.areturn, 1) := by decide +kernel
theorem nd_L_freeze_0 : decode nb_L_freeze 0 = .ok (.aload_n 2, 1) := by decide +kernel
theorem nd_L_freeze_1 : decode nb_L_freeze 1 = .ok (.iconst 0, 1) := by decide +kernel
theorem nd_L_freeze_2 : decode nb_L_freeze 2 = .ok (.aload_n 0, 1) := by decide +kernel
theorem nd_L_freeze_3 : decode nb_L_freeze 3 = .ok (.iload_n 1, 1) := by decide +kernel
theorem nd_L_freeze_4 : decode nb_L_freeze 4 = .ok (.invokevirtual 55, 3) := by decide +kernel
theorem nd_L_freeze_7 : decode nb_L_freeze 7 = .ok (.i2l, 1) := by decide +kernel
theorem nd_L_freeze_8 : decode nb_L_freeze 8 = .ok (.lastore, 1) := by decide +kernel
theorem nd_L_freeze_9 : decode nb_L_freeze 9 = .ok (.goto 9, 3) := by decide +kernel
theorem nd_L_freeze_12 : decode nb_L_freeze 12 = .ok (.astore_n 3, 1) := by decide +kernel
theorem nd_L_freeze_13 : decode nb_L_freeze 13 = .ok (.iconst 1, 1) := by decide +kernel
theorem nd_L_freeze_14 : decode nb_L_freeze 14 = .ok (.ireturn, 1) := by decide +kernel
theorem nd_L_freeze_15 : decode nb_L_freeze 15 = .ok (.astore_n 3, 1) := by decide +kernel
theorem nd_L_freeze_16 : decode nb_L_freeze 16 = .ok (.iconst 2, 1) := by decide +kernel
theorem nd_L_freeze_17 : decode nb_L_freeze 17 = .ok (.ireturn, 1) := by decide +kernel
theorem nd_L_freeze_18 : decode nb_L_freeze 18 = .ok (.iconst 0, 1) := by decide +kernel
theorem nd_L_freeze_19 : decode nb_L_freeze 19 = .ok (.ireturn, 1) := by decide +kernel
theorem nd_S_freeze_0 : decode nb_S_freeze 0 = .ok (.iload_n 1, 1) := by decide +kernel
theorem nd_S_freeze_1 : decode nb_S_freeze 1 = .ok (.invokestatic 30, 3) := by decide +kernel
theorem nd_S_freeze_4 : decode nb_S_freeze 4 = .ok (.aload_n 0, 1) := by decide +kernel
theorem nd_S_freeze_5 : decode nb_S_freeze 5 = .ok (.invokevirtual 89, 3) := by decide +kernel
theorem nd_S_freeze_8 : decode nb_S_freeze 8 = .ok (.astore_n 2, 1) := by decide +kernel
theorem nd_S_freeze_9 : decode nb_S_freeze 9 = .ok (.aload_n 0, 1) := by decide +kernel
theorem nd_S_freeze_10 : decode nb_S_freeze 10 = .ok (.getfield 19, 3) := by decide +kernel
theorem nd_S_freeze_13 : decode nb_S_freeze 13 = .ok (.iload_n 1, 1) := by decide +kernel
theorem nd_S_freeze_14 : decode nb_S_freeze 14 = .ok (.aload_n 2, 1) := by decide +kernel
theorem nd_S_freeze_15 : decode nb_S_freeze 15 = .ok (.aastore, 1) := by decide +kernel
theorem nd_S_freeze_16 : decode nb_S_freeze 16 = .ok (.aload_n 0, 1) := by decide +kernel
theorem nd_S_freeze_17 : decode nb_S_freeze 17 = .ok (.aconst_null, 1) := by decide +kernel
theorem nd_S_freeze_18 : decode nb_S_freeze 18 = .ok (.putfield 23, 3) := by decide +kernel
theorem nd_S_freeze_21 : decode nb_S_freeze 21 = .ok (.aload_n 2, 1) := by decide +kernel
theorem nd_S_freeze_22 : decode nb_S_freeze 22 = .ok (.getfield 46, 3) := by decide +kernel
theorem nd_S_freeze_25 : decode nb_S_freeze 25 = .ok (.ireturn, 1) := by decide +kernel
theorem nd_M_init_0 : decode nb_M_init 0 = .ok (.aload_n 0, 1) := by decide +kernel
theorem nd_M_init_1 : decode nb_M_init 1 = .ok (.invokespecial 1, 3) := by decide +kernel
theorem nd_M_init_4 : decode nb_M_init 4 = .ok (.aload_n 0, 1) := by decide +kernel
theorem nd_M_init_5 : decode nb_M_init 5 = .ok (.bipush 17, 2) := by decide +kernel
theorem nd_M_init_7 : decode nb_M_init 7 = .ok (.sipush 3000, 3) := by decide +kernel
theorem nd_M_init_10 : decode nb_M_init 10 = .ok (.multianewarray 9 2, 4) := by decide +kernel
theorem nd_M_init_14 : decode nb_M_init 14 = .ok (.putfield 11, 3) := by decide +kernel
theorem nd_M_init_17 : decode nb_M_init 17 = .ok (.aload_n 0, 1) := by decide +kernel
theorem nd_M_init_18 : decode nb_M_init 18 = .ok (.bipush 17, 2) := by decide +kernel
theorem nd_M_init_20 : decode nb_M_init 20 = .ok (.newarray .int, 2) := by decide +kernel
theorem nd_M_init_22 : decode nb_M_init 22 = .ok (.putfield 14, 3) := by decide +kernel
theorem nd_M_init_25 : decode nb_M_init 25 = .ok (.return_, 1) := by decide +kernel
theorem nd_M_thrown_0 : decode nb_M_thrown 0 = .ok (.aload_n 0, 1) := by decide +kernel
theorem nd_M_thrown_1 : decode nb_M_thrown 1 = .ok (.getfield 18, 3) := by decide +kernel
theorem nd_M_thrown_4 : decode nb_M_thrown 4 = .ok (.ireturn, 1) := by decide +kernel
theorem nd_M_add_0 : decode nb_M_add 0 = .ok (.aload_n 0, 1) := by decide +kernel
theorem nd_M_add_1 : decode nb_M_add 1 = .ok (.iload_n 1, 1) := by decide +kernel
theorem nd_M_add_2 : decode nb_M_add 2 = .ok (.invokestatic 22, 3) := by decide +kernel
theorem nd_M_add_5 : decode nb_M_add 5 = .ok (.ifCond .eq 14, 3) := by decide +kernel
theorem nd_M_add_8 : decode nb_M_add 8 = .ok (.iload_n 2, 1) := by decide +kernel
theorem nd_M_add_9 : decode nb_M_add 9 = .ok (.invokestatic 22, 3) := by decide +kernel
theorem nd_M_add_12 : decode nb_M_add 12 = .ok (.ifCond .eq 7, 3) := by decide +kernel
theorem nd_M_add_15 : decode nb_M_add 15 = .ok (.iconst 1, 1) := by decide +kernel
theorem nd_M_add_16 : decode nb_M_add 16 = .ok (.goto 4, 3) := by decide +kernel
theorem nd_M_add_19 : decode nb_M_add 19 = .ok (.iconst 0, 1) := by decide +kernel
theorem nd_M_add_20 : decode nb_M_add 20 = .ok (.iconst 1, 1) := by decide +kernel
theorem nd_M_add_21 : decode nb_M_add 21 = .ok (.invokevirtual 26, 3) := by decide +kernel
theorem nd_M_add_24 : decode nb_M_add 24 = .ok (.ifCond .eq 28, 3) := by decide +kernel
theorem nd_M_add_27 : decode nb_M_add 27 = .ok (.aload_n 0, 1) := by decide +kernel
theorem nd_M_add_28 : decode nb_M_add 28 = .ok (.aload_n 0, 1) := by decide +kernel
theorem nd_M_add_29 : decode nb_M_add 29 = .ok (.getfield 14, 3) := by decide +kernel
theorem nd_M_add_32 : decode nb_M_add 32 = .ok (.iload_n 2, 1) := by decide +kernel
theorem nd_M_add_33 : decode nb_M_add 33 = .ok (.iaload, 1) := by decide +kernel
theorem nd_M_add_34 : decode nb_M_add 34 = .ok (.sipush 3000, 3) := by decide +kernel
theorem nd_M_add_37 : decode nb_M_add 37 = .ok (.if_icmp .ge 7, 3) := by decide +kernel
theorem nd_M_add_40 : decode nb_M_add 40 = .ok (.iconst 1, 1) := by decide +kernel
theorem nd_M_add_41 : decode nb_M_add 41 = .ok (.goto 4, 3) := by decide +kernel
theorem nd_M_add_44 : decode nb_M_add 44 = .ok (.iconst 0, 1) := by decide +kernel
theorem nd_M_add_45 : decode nb_M_add 45 = .ok (.iconst 2, 1) := by decide +kernel
theorem nd_M_add_46 : decode nb_M_add 46 = .ok (.invokevirtual 26, 3) := by decide +kernel
theorem nd_M_add_49 : decode nb_M_add 49 = .ok (.ifCond .ne 5, 3) := by decide +kernel
theorem nd_M_add_52 : decode nb_M_add 52 = .ok (.iconst 0, 1) := by decide +kernel
theorem nd_M_add_53 : decode nb_M_add 53 = .ok (.ireturn, 1) := by decide +kernel
theorem nd_M_add_54 : decode nb_M_add 54 = .ok (.aload_n 0, 1) := by decide +kernel
theorem nd_M_add_55 : decode nb_M_add 55 = .ok (.iload_n 1, 1) := by decide +kernel
theorem nd_M_add_56 : decode nb_M_add 56 = .ok (.iload_n 2, 1) := by decide +kernel
theorem nd_M_add_57 : decode nb_M_add 57 = .ok (.invokevirtual 30, 3) := by decide +kernel
theorem nd_M_add_60 : decode nb_M_add 60 = .ok (.aload_n 0, 1) := by decide +kernel
theorem nd_M_add_61 : decode nb_M_add 61 = .ok (.getfield 11, 3) := by decide +kernel
theorem nd_M_add_64 : decode nb_M_add 64 = .ok (.iload_n 1, 1) := by decide +kernel
theorem nd_M_add_65 : decode nb_M_add 65 = .ok (.aaload, 1) := by decide +kernel
theorem nd_M_add_66 : decode nb_M_add 66 = .ok (.aload_n 0, 1) := by decide +kernel
theorem nd_M_add_67 : decode nb_M_add 67 = .ok (.getfield 14, 3) := by decide +kernel
theorem nd_M_add_70 : decode nb_M_add 70 = .ok (.iload_n 1, 1) := by decide +kernel
theorem nd_M_add_71 : decode nb_M_add 71 = .ok (.iaload, 1) := by decide +kernel
theorem nd_M_add_72 : decode nb_M_add 72 = .ok (.lload_n 3, 1) := by decide +kernel
theorem nd_M_add_73 : decode nb_M_add 73 = .ok (.lastore, 1) := by decide +kernel
theorem nd_M_add_74 : decode nb_M_add 74 = .ok (.aload_n 0, 1) := by decide +kernel
theorem nd_M_add_75 : decode nb_M_add 75 = .ok (.getfield 14, 3) := by decide +kernel
theorem nd_M_add_78 : decode nb_M_add 78 = .ok (.iload_n 1, 1) := by decide +kernel
theorem nd_M_add_79 : decode nb_M_add 79 = .ok (.dup2, 1) := by decide +kernel
theorem nd_M_add_80 : decode nb_M_add 80 = .ok (.iaload, 1) := by decide +kernel
theorem nd_M_add_81 : decode nb_M_add 81 = .ok (.iconst 1, 1) := by decide +kernel
theorem nd_M_add_82 : decode nb_M_add 82 = .ok (.iadd, 1) := by decide +kernel
theorem nd_M_add_83 : decode nb_M_add 83 = .ok (.iastore, 1) := by decide +kernel
theorem nd_M_add_84 : decode nb_M_add 84 = .ok (.aload_n 0, 1) := by decide +kernel
theorem nd_M_add_85 : decode nb_M_add 85 = .ok (.getfield 14, 3) := by decide +kernel
theorem nd_M_add_88 : decode nb_M_add 88 = .ok (.iload_n 1, 1) := by decide +kernel
theorem nd_M_add_89 : decode nb_M_add 89 = .ok (.iaload, 1) := by decide +kernel
theorem nd_M_add_90 : decode nb_M_add 90 = .ok (.ireturn, 1) := by decide +kernel
theorem nd_M_isSlot_0 : decode nb_M_isSlot 0 = .ok (.iload_n 0, 1) := by decide +kernel
theorem nd_M_isSlot_1 : decode nb_M_isSlot 1 = .ok (.ifCond .lt 13, 3) := by decide +kernel
theorem nd_M_isSlot_4 : decode nb_M_isSlot 4 = .ok (.iload_n 0, 1) := by decide +kernel
theorem nd_M_isSlot_5 : decode nb_M_isSlot 5 = .ok (.bipush 16, 2) := by decide +kernel
theorem nd_M_isSlot_7 : decode nb_M_isSlot 7 = .ok (.if_icmp .ge 7, 3) := by decide +kernel
theorem nd_M_isSlot_10 : decode nb_M_isSlot 10 = .ok (.iconst 1, 1) := by decide +kernel
theorem nd_M_isSlot_11 : decode nb_M_isSlot 11 = .ok (.goto 4, 3) := by decide +kernel
theorem nd_M_isSlot_14 : decode nb_M_isSlot 14 = .ok (.iconst 0, 1) := by decide +kernel
theorem nd_M_isSlot_15 : decode nb_M_isSlot 15 = .ok (.ireturn, 1) := by decide +kernel
theorem nd_M_good_0 : decode nb_M_good 0 = .ok (.aload_n 0, 1) := by decide +kernel
theorem nd_M_good_1 : decode nb_M_good 1 = .ok (.iload_n 1, 1) := by decide +kernel
theorem nd_M_good_2 : decode nb_M_good 2 = .ok (.ifCond .eq 7, 3) := by decide +kernel
theorem nd_M_good_5 : decode nb_M_good 5 = .ok (.iconst 0, 1) := by decide +kernel
theorem nd_M_good_6 : decode nb_M_good 6 = .ok (.goto 4, 3) := by decide +kernel
theorem nd_M_good_9 : decode nb_M_good 9 = .ok (.iload_n 2, 1) := by decide +kernel
theorem nd_M_good_10 : decode nb_M_good 10 = .ok (.putfield 18, 3) := by decide +kernel
theorem nd_M_good_13 : decode nb_M_good 13 = .ok (.iload_n 1, 1) := by decide +kernel
theorem nd_M_good_14 : decode nb_M_good 14 = .ok (.ireturn, 1) := by decide +kernel
theorem nd_M_copy_0 : decode nb_M_copy 0 = .ok (.iconst 0, 1) := by decide +kernel
theorem nd_M_copy_1 : decode nb_M_copy 1 = .ok (.istore_n 3, 1) := by decide +kernel
theorem nd_M_copy_2 : decode nb_M_copy 2 = .ok (.iload_n 3, 1) := by decide +kernel
theorem nd_M_copy_3 : decode nb_M_copy 3 = .ok (.aload_n 0, 1) := by decide +kernel
theorem nd_M_copy_4 : decode nb_M_copy 4 = .ok (.getfield 14, 3) := by decide +kernel
theorem nd_M_copy_7 : decode nb_M_copy 7 = .ok (.iload_n 2, 1) := by decide +kernel
theorem nd_M_copy_8 : decode nb_M_copy 8 = .ok (.iaload, 1) := by decide +kernel
theorem nd_M_copy_9 : decode nb_M_copy 9 = .ok (.if_icmp .ge 25, 3) := by decide +kernel
theorem nd_M_copy_12 : decode nb_M_copy 12 = .ok (.aload_n 0, 1) := by decide +kernel
theorem nd_M_copy_13 : decode nb_M_copy 13 = .ok (.getfield 11, 3) := by decide +kernel
theorem nd_M_copy_16 : decode nb_M_copy 16 = .ok (.iload_n 1, 1) := by decide +kernel
theorem nd_M_copy_17 : decode nb_M_copy 17 = .ok (.aaload, 1) := by decide +kernel
theorem nd_M_copy_18 : decode nb_M_copy 18 = .ok (.iload_n 3, 1) := by decide +kernel
theorem nd_M_copy_19 : decode nb_M_copy 19 = .ok (.aload_n 0, 1) := by decide +kernel
theorem nd_M_copy_20 : decode nb_M_copy 20 = .ok (.getfield 11, 3) := by decide +kernel
theorem nd_M_copy_23 : decode nb_M_copy 23 = .ok (.iload_n 2, 1) := by decide +kernel
theorem nd_M_copy_24 : decode nb_M_copy 24 = .ok (.aaload, 1) := by decide +kernel
theorem nd_M_copy_25 : decode nb_M_copy 25 = .ok (.iload_n 3, 1) := by decide +kernel
theorem nd_M_copy_26 : decode nb_M_copy 26 = .ok (.laload, 1) := by decide +kernel
theorem nd_M_copy_27 : decode nb_M_copy 27 = .ok (.lastore, 1) := by decide +kernel
theorem nd_M_copy_28 : decode nb_M_copy 28 = .ok (.iinc 3 1, 3) := by decide +kernel
theorem nd_M_copy_31 : decode nb_M_copy 31 = .ok (.goto (-29), 3) := by decide +kernel
theorem nd_M_copy_34 : decode nb_M_copy 34 = .ok (.aload_n 0, 1) := by decide +kernel
theorem nd_M_copy_35 : decode nb_M_copy 35 = .ok (.getfield 14, 3) := by decide +kernel
theorem nd_M_copy_38 : decode nb_M_copy 38 = .ok (.iload_n 1, 1) := by decide +kernel
theorem nd_M_copy_39 : decode nb_M_copy 39 = .ok (.aload_n 0, 1) := by decide +kernel
theorem nd_M_copy_40 : decode nb_M_copy 40 = .ok (.getfield 14, 3) := by decide +kernel
theorem nd_M_copy_43 : decode nb_M_copy 43 = .ok (.iload_n 2, 1) := by decide +kernel
theorem nd_M_copy_44 : decode nb_M_copy 44 = .ok (.iaload, 1) := by decide +kernel
theorem nd_M_copy_45 : decode nb_M_copy 45 = .ok (.iastore, 1) := by decide +kernel
theorem nd_M_copy_46 : decode nb_M_copy 46 = .ok (.return_, 1) := by decide +kernel
theorem nd_M_push_0 : decode nb_M_push 0 = .ok (.aload_n 0, 1) := by decide +kernel
theorem nd_M_push_1 : decode nb_M_push 1 = .ok (.iload_n 1, 1) := by decide +kernel
theorem nd_M_push_2 : decode nb_M_push 2 = .ok (.invokestatic 22, 3) := by decide +kernel
theorem nd_M_push_5 : decode nb_M_push 5 = .ok (.ifCond .eq 14, 3) := by decide +kernel
theorem nd_M_push_8 : decode nb_M_push 8 = .ok (.iload_n 2, 1) := by decide +kernel
theorem nd_M_push_9 : decode nb_M_push 9 = .ok (.invokestatic 22, 3) := by decide +kernel
theorem nd_M_push_12 : decode nb_M_push 12 = .ok (.ifCond .eq 7, 3) := by decide +kernel
theorem nd_M_push_15 : decode nb_M_push 15 = .ok (.iconst 1, 1) := by decide +kernel
theorem nd_M_push_16 : decode nb_M_push 16 = .ok (.goto 4, 3) := by decide +kernel
theorem nd_M_push_19 : decode nb_M_push 19 = .ok (.iconst 0, 1) := by decide +kernel
theorem nd_M_push_20 : decode nb_M_push 20 = .ok (.iconst 1, 1) := by decide +kernel
theorem nd_M_push_21 : decode nb_M_push 21 = .ok (.invokevirtual 26, 3) := by decide +kernel
theorem nd_M_push_24 : decode nb_M_push 24 = .ok (.ifCond .eq 28, 3) := by decide +kernel
theorem nd_M_push_27 : decode nb_M_push 27 = .ok (.aload_n 0, 1) := by decide +kernel
theorem nd_M_push_28 : decode nb_M_push 28 = .ok (.aload_n 0, 1) := by decide +kernel
theorem nd_M_push_29 : decode nb_M_push 29 = .ok (.getfield 14, 3) := by decide +kernel
theorem nd_M_push_32 : decode nb_M_push 32 = .ok (.iload_n 2, 1) := by decide +kernel
theorem nd_M_push_33 : decode nb_M_push 33 = .ok (.iaload, 1) := by decide +kernel
theorem nd_M_push_34 : decode nb_M_push 34 = .ok (.sipush 3000, 3) := by decide +kernel
theorem nd_M_push_37 : decode nb_M_push 37 = .ok (.if_icmp .ge 7, 3) := by decide +kernel
theorem nd_M_push_40 : decode nb_M_push 40 = .ok (.iconst 1, 1) := by decide +kernel
theorem nd_M_push_41 : decode nb_M_push 41 = .ok (.goto 4, 3) := by decide +kernel
theorem nd_M_push_44 : decode nb_M_push 44 = .ok (.iconst 0, 1) := by decide +kernel
theorem nd_M_push_45 : decode nb_M_push 45 = .ok (.iconst 2, 1) := by decide +kernel
theorem nd_M_push_46 : decode nb_M_push 46 = .ok (.invokevirtual 26, 3) := by decide +kernel
theorem nd_M_push_49 : decode nb_M_push 49 = .ok (.ifCond .ne 5, 3) := by decide +kernel
theorem nd_M_push_52 : decode nb_M_push 52 = .ok (.iconst 0, 1) := by decide +kernel
theorem nd_M_push_53 : decode nb_M_push 53 = .ok (.ireturn, 1) := by decide +kernel
theorem nd_M_push_54 : decode nb_M_push 54 = .ok (.aload_n 0, 1) := by decide +kernel
theorem nd_M_push_55 : decode nb_M_push 55 = .ok (.iload_n 1, 1) := by decide +kernel
theorem nd_M_push_56 : decode nb_M_push 56 = .ok (.iload_n 2, 1) := by decide +kernel
theorem nd_M_push_57 : decode nb_M_push 57 = .ok (.invokevirtual 30, 3) := by decide +kernel
theorem nd_M_push_60 : decode nb_M_push 60 = .ok (.aload_n 0, 1) := by decide +kernel
theorem nd_M_push_61 : decode nb_M_push 61 = .ok (.getfield 14, 3) := by decide +kernel
theorem nd_M_push_64 : decode nb_M_push 64 = .ok (.iload_n 1, 1) := by decide +kernel
theorem nd_M_push_65 : decode nb_M_push 65 = .ok (.iaload, 1) := by decide +kernel
theorem nd_M_push_66 : decode nb_M_push 66 = .ok (.istore 5, 2) := by decide +kernel
theorem nd_M_push_68 : decode nb_M_push 68 = .ok (.iload 5, 2) := by decide +kernel
theorem nd_M_push_70 : decode nb_M_push 70 = .ok (.ifCond .le 29, 3) := by decide +kernel
theorem nd_M_push_73 : decode nb_M_push 73 = .ok (.aload_n 0, 1) := by decide +kernel
theorem nd_M_push_74 : decode nb_M_push 74 = .ok (.getfield 11, 3) := by decide +kernel
theorem nd_M_push_77 : decode nb_M_push 77 = .ok (.iload_n 1, 1) := by decide +kernel
theorem nd_M_push_78 : decode nb_M_push 78 = .ok (.aaload, 1) := by decide +kernel
theorem nd_M_push_79 : decode nb_M_push 79 = .ok (.iload 5, 2) := by decide +kernel
theorem nd_M_push_81 : decode nb_M_push 81 = .ok (.aload_n 0, 1) := by decide +kernel
theorem nd_M_push_82 : decode nb_M_push 82 = .ok (.getfield 11, 3) := by decide +kernel
theorem nd_M_push_85 : decode nb_M_push 85 = .ok (.iload_n 1, 1) := by decide +kernel
theorem nd_M_push_86 : decode nb_M_push 86 = .ok (.aaload, 1) := by decide +kernel
theorem nd_M_push_87 : decode nb_M_push 87 = .ok (.iload 5, 2) := by decide +kernel
theorem nd_M_push_89 : decode nb_M_push 89 = .ok (.iconst 1, 1) := by decide +kernel
theorem nd_M_push_90 : decode nb_M_push 90 = .ok (.isub, 1) := by decide +kernel
theorem nd_M_push_91 : decode nb_M_push 91 = .ok (.laload, 1) := by decide +kernel
theorem nd_M_push_92 : decode nb_M_push 92 = .ok (.lastore, 1) := by decide +kernel
theorem nd_M_push_93 : decode nb_M_push 93 = .ok (.iinc 5 (-1), 3) := by decide +kernel
theorem nd_M_push_96 : decode nb_M_push 96 = .ok (.goto (-28), 3) := by decide +kernel
theorem nd_M_push_99 : decode nb_M_push 99 = .ok (.aload_n 0, 1) := by decide +kernel
theorem nd_M_push_100 : decode nb_M_push 100 = .ok (.getfield 11, 3) := by decide +kernel
theorem nd_M_push_103 : decode nb_M_push 103 = .ok (.iload_n 1, 1) := by decide +kernel
theorem nd_M_push_104 : decode nb_M_push 104 = .ok (.aaload, 1) := by decide +kernel
theorem nd_M_push_105 : decode nb_M_push 105 = .ok (.iconst 0, 1) := by decide +kernel
theorem nd_M_push_106 : decode nb_M_push 106 = .ok (.lload_n 3, 1) := by decide +kernel
theorem nd_M_push_107 : decode nb_M_push 107 = .ok (.lastore, 1) := by decide +kernel
theorem nd_M_push_108 : decode nb_M_push 108 = .ok (.aload_n 0, 1) := by decide +kernel
theorem nd_M_push_109 : decode nb_M_push 109 = .ok (.getfield 14, 3) := by decide +kernel
theorem nd_M_push_112 : decode nb_M_push 112 = .ok (.iload_n 1, 1) := by decide +kernel
theorem nd_M_push_113 : decode nb_M_push 113 = .ok (.dup2, 1) := by decide +kernel
theorem nd_M_push_114 : decode nb_M_push 114 = .ok (.iaload, 1) := by decide +kernel
theorem nd_M_push_115 : decode nb_M_push 115 = .ok (.iconst 1, 1) := by decide +kernel
theorem nd_M_push_116 : decode nb_M_push 116 = .ok (.iadd, 1) := by decide +kernel
theorem nd_M_push_117 : decode nb_M_push 117 = .ok (.iastore, 1) := by decide +kernel
theorem nd_M_push_118 : decode nb_M_push 118 = .ok (.aload_n 0, 1) := by decide +kernel
theorem nd_M_push_119 : decode nb_M_push 119 = .ok (.getfield 14, 3) := by decide +kernel
theorem nd_M_push_122 : decode nb_M_push 122 = .ok (.iload_n 1, 1) := by decide +kernel
theorem nd_M_push_123 : decode nb_M_push 123 = .ok (.iaload, 1) := by decide +kernel
theorem nd_M_push_124 : decode nb_M_push 124 = .ok (.ireturn, 1) := by decide +kernel
theorem nd_M_set_0 : decode nb_M_set 0 = .ok (.aload_n 0, 1) := by decide +kernel
theorem nd_M_set_1 : decode nb_M_set 1 = .ok (.iload_n 1, 1) := by decide +kernel
theorem nd_M_set_2 : decode nb_M_set 2 = .ok (.invokestatic 22, 3) := by decide +kernel
theorem nd_M_set_5 : decode nb_M_set 5 = .ok (.ifCond .eq 14, 3) := by decide +kernel
theorem nd_M_set_8 : decode nb_M_set 8 = .ok (.iload_n 2, 1) := by decide +kernel
theorem nd_M_set_9 : decode nb_M_set 9 = .ok (.invokestatic 22, 3) := by decide +kernel
theorem nd_M_set_12 : decode nb_M_set 12 = .ok (.ifCond .eq 7, 3) := by decide +kernel
theorem nd_M_set_15 : decode nb_M_set 15 = .ok (.iconst 1, 1) := by decide +kernel
theorem nd_M_set_16 : decode nb_M_set 16 = .ok (.goto 4, 3) := by decide +kernel
theorem nd_M_set_19 : decode nb_M_set 19 = .ok (.iconst 0, 1) := by decide +kernel
theorem nd_M_set_20 : decode nb_M_set 20 = .ok (.iconst 1, 1) := by decide +kernel
theorem nd_M_set_21 : decode nb_M_set 21 = .ok (.invokevirtual 26, 3) := by decide +kernel
theorem nd_M_set_24 : decode nb_M_set 24 = .ok (.ifCond .eq 30, 3) := by decide +kernel
theorem nd_M_set_27 : decode nb_M_set 27 = .ok (.aload_n 0, 1) := by decide +kernel
theorem nd_M_set_28 : decode nb_M_set 28 = .ok (.iload_n 3, 1) := by decide +kernel
theorem nd_M_set_29 : decode nb_M_set 29 = .ok (.ifCond .lt 17, 3) := by decide +kernel
theorem nd_M_set_32 : decode nb_M_set 32 = .ok (.iload_n 3, 1) := by decide +kernel
theorem nd_M_set_33 : decode nb_M_set 33 = .ok (.aload_n 0, 1) := by decide +kernel
theorem nd_M_set_34 : decode nb_M_set 34 = .ok (.getfield 14, 3) := by decide +kernel
theorem nd_M_set_37 : decode nb_M_set 37 = .ok (.iload_n 2, 1) := by decide +kernel
theorem nd_M_set_38 : decode nb_M_set 38 = .ok (.iaload, 1) := by decide +kernel
theorem nd_M_set_39 : decode nb_M_set 39 = .ok (.if_icmp .ge 7, 3) := by decide +kernel
theorem nd_M_set_42 : decode nb_M_set 42 = .ok (.iconst 1, 1) := by decide +kernel
theorem nd_M_set_43 : decode nb_M_set 43 = .ok (.goto 4, 3) := by decide +kernel
theorem nd_M_set_46 : decode nb_M_set 46 = .ok (.iconst 0, 1) := by decide +kernel
theorem nd_M_set_47 : decode nb_M_set 47 = .ok (.iconst 2, 1) := by decide +kernel
theorem nd_M_set_48 : decode nb_M_set 48 = .ok (.invokevirtual 26, 3) := by decide +kernel
theorem nd_M_set_51 : decode nb_M_set 51 = .ok (.ifCond .ne 5, 3) := by decide +kernel
theorem nd_M_set_54 : decode nb_M_set 54 = .ok (.lconst 0, 1) := by decide +kernel
theorem nd_M_set_55 : decode nb_M_set 55 = .ok (.lreturn, 1) := by decide +kernel
theorem nd_M_set_56 : decode nb_M_set 56 = .ok (.aload_n 0, 1) := by decide +kernel
theorem nd_M_set_57 : decode nb_M_set 57 = .ok (.iload_n 1, 1) := by decide +kernel
theorem nd_M_set_58 : decode nb_M_set 58 = .ok (.iload_n 2, 1) := by decide +kernel
theorem nd_M_set_59 : decode nb_M_set 59 = .ok (.invokevirtual 30, 3) := by decide +kernel
theorem nd_M_set_62 : decode nb_M_set 62 = .ok (.aload_n 0, 1) := by decide +kernel
theorem nd_M_set_63 : decode nb_M_set 63 = .ok (.getfield 11, 3) := by decide +kernel
theorem nd_M_set_66 : decode nb_M_set 66 = .ok (.iload_n 1, 1) := by decide +kernel
theorem nd_M_set_67 : decode nb_M_set 67 = .ok (.aaload, 1) := by decide +kernel
theorem nd_M_set_68 : decode nb_M_set 68 = .ok (.iload_n 3, 1) := by decide +kernel
theorem nd_M_set_69 : decode nb_M_set 69 = .ok (.laload, 1) := by decide +kernel
theorem nd_M_set_70 : decode nb_M_set 70 = .ok (.lstore 6, 2) := by decide +kernel
theorem nd_M_set_72 : decode nb_M_set 72 = .ok (.aload_n 0, 1) := by decide +kernel
theorem nd_M_set_73 : decode nb_M_set 73 = .ok (.getfield 11, 3) := by decide +kernel
theorem nd_M_set_76 : decode nb_M_set 76 = .ok (.iload_n 1, 1) := by decide +kernel
theorem nd_M_set_77 : decode nb_M_set 77 = .ok (.aaload, 1) := by decide +kernel
theorem nd_M_set_78 : decode nb_M_set 78 = .ok (.iload_n 3, 1) := by decide +kernel
theorem nd_M_set_79 : decode nb_M_set 79 = .ok (.lload 4, 2) := by decide +kernel
theorem nd_M_set_81 : decode nb_M_set 81 = .ok (.lastore, 1) := by decide +kernel
theorem nd_M_set_82 : decode nb_M_set 82 = .ok (.lload 6, 2) := by decide +kernel
theorem nd_M_set_84 : decode nb_M_set 84 = .ok (.lreturn, 1) := by decide +kernel
theorem nd_M_at_0 : decode nb_M_at 0 = .ok (.aload_n 0, 1) := by decide +kernel
theorem nd_M_at_1 : decode nb_M_at 1 = .ok (.iload_n 1, 1) := by decide +kernel
theorem nd_M_at_2 : decode nb_M_at 2 = .ok (.invokestatic 22, 3) := by decide +kernel
theorem nd_M_at_5 : decode nb_M_at 5 = .ok (.iconst 1, 1) := by decide +kernel
theorem nd_M_at_6 : decode nb_M_at 6 = .ok (.invokevirtual 26, 3) := by decide +kernel
theorem nd_M_at_9 : decode nb_M_at 9 = .ok (.ifCond .eq 30, 3) := by decide +kernel
theorem nd_M_at_12 : decode nb_M_at 12 = .ok (.aload_n 0, 1) := by decide +kernel
theorem nd_M_at_13 : decode nb_M_at 13 = .ok (.iload_n 2, 1) := by decide +kernel
theorem nd_M_at_14 : decode nb_M_at 14 = .ok (.ifCond .lt 17, 3) := by decide +kernel
theorem nd_M_at_17 : decode nb_M_at 17 = .ok (.iload_n 2, 1) := by decide +kernel
theorem nd_M_at_18 : decode nb_M_at 18 = .ok (.aload_n 0, 1) := by decide +kernel
theorem nd_M_at_19 : decode nb_M_at 19 = .ok (.getfield 14, 3) := by decide +kernel
theorem nd_M_at_22 : decode nb_M_at 22 = .ok (.iload_n 1, 1) := by decide +kernel
theorem nd_M_at_23 : decode nb_M_at 23 = .ok (.iaload, 1) := by decide +kernel
theorem nd_M_at_24 : decode nb_M_at 24 = .ok (.if_icmp .ge 7, 3) := by decide +kernel
theorem nd_M_at_27 : decode nb_M_at 27 = .ok (.iconst 1, 1) := by decide +kernel
theorem nd_M_at_28 : decode nb_M_at 28 = .ok (.goto 4, 3) := by decide +kernel
theorem nd_M_at_31 : decode nb_M_at 31 = .ok (.iconst 0, 1) := by decide +kernel
theorem nd_M_at_32 : decode nb_M_at 32 = .ok (.iconst 2, 1) := by decide +kernel
theorem nd_M_at_33 : decode nb_M_at 33 = .ok (.invokevirtual 26, 3) := by decide +kernel
theorem nd_M_at_36 : decode nb_M_at 36 = .ok (.ifCond .ne 5, 3) := by decide +kernel
theorem nd_M_at_39 : decode nb_M_at 39 = .ok (.lconst 0, 1) := by decide +kernel
theorem nd_M_at_40 : decode nb_M_at 40 = .ok (.lreturn, 1) := by decide +kernel
theorem nd_M_at_41 : decode nb_M_at 41 = .ok (.aload_n 0, 1) := by decide +kernel
theorem nd_M_at_42 : decode nb_M_at 42 = .ok (.getfield 11, 3) := by decide +kernel
theorem nd_M_at_45 : decode nb_M_at 45 = .ok (.iload_n 1, 1) := by decide +kernel
theorem nd_M_at_46 : decode nb_M_at 46 = .ok (.aaload, 1) := by decide +kernel
theorem nd_M_at_47 : decode nb_M_at 47 = .ok (.iload_n 2, 1) := by decide +kernel
theorem nd_M_at_48 : decode nb_M_at 48 = .ok (.laload, 1) := by decide +kernel
theorem nd_M_at_49 : decode nb_M_at 49 = .ok (.lreturn, 1) := by decide +kernel
theorem nd_M_cut_0 : decode nb_M_cut 0 = .ok (.aload_n 0, 1) := by decide +kernel
theorem nd_M_cut_1 : decode nb_M_cut 1 = .ok (.iload_n 1, 1) := by decide +kernel
theorem nd_M_cut_2 : decode nb_M_cut 2 = .ok (.invokestatic 22, 3) := by decide +kernel
theorem nd_M_cut_5 : decode nb_M_cut 5 = .ok (.ifCond .eq 23, 3) := by decide +kernel
theorem nd_M_cut_8 : decode nb_M_cut 8 = .ok (.iload_n 2, 1) := by decide +kernel
theorem nd_M_cut_9 : decode nb_M_cut 9 = .ok (.invokestatic 22, 3) := by decide +kernel
theorem nd_M_cut_12 : decode nb_M_cut 12 = .ok (.ifCond .eq 16, 3) := by decide +kernel
theorem nd_M_cut_15 : decode nb_M_cut 15 = .ok (.iload_n 3, 1) := by decide +kernel
theorem nd_M_cut_16 : decode nb_M_cut 16 = .ok (.ifCond .lt 12, 3) := by decide +kernel
theorem nd_M_cut_19 : decode nb_M_cut 19 = .ok (.iload 4, 2) := by decide +kernel
theorem nd_M_cut_21 : decode nb_M_cut 21 = .ok (.ifCond .lt 7, 3) := by decide +kernel
theorem nd_M_cut_24 : decode nb_M_cut 24 = .ok (.iconst 1, 1) := by decide +kernel
theorem nd_M_cut_25 : decode nb_M_cut 25 = .ok (.goto 4, 3) := by decide +kernel
theorem nd_M_cut_28 : decode nb_M_cut 28 = .ok (.iconst 0, 1) := by decide +kernel
theorem nd_M_cut_29 : decode nb_M_cut 29 = .ok (.iconst 1, 1) := by decide +kernel
theorem nd_M_cut_30 : decode nb_M_cut 30 = .ok (.invokevirtual 26, 3) := by decide +kernel
theorem nd_M_cut_33 : decode nb_M_cut 33 = .ok (.ifCond .eq 33, 3) := by decide +kernel
theorem nd_M_cut_36 : decode nb_M_cut 36 = .ok (.aload_n 0, 1) := by decide +kernel
theorem nd_M_cut_37 : decode nb_M_cut 37 = .ok (.iload_n 3, 1) := by decide +kernel
theorem nd_M_cut_38 : decode nb_M_cut 38 = .ok (.i2l, 1) := by decide +kernel
theorem nd_M_cut_39 : decode nb_M_cut 39 = .ok (.iload 4, 2) := by decide +kernel
theorem nd_M_cut_41 : decode nb_M_cut 41 = .ok (.i2l, 1) := by decide +kernel
theorem nd_M_cut_42 : decode nb_M_cut 42 = .ok (.ladd, 1) := by decide +kernel
theorem nd_M_cut_43 : decode nb_M_cut 43 = .ok (.aload_n 0, 1) := by decide +kernel
theorem nd_M_cut_44 : decode nb_M_cut 44 = .ok (.getfield 14, 3) := by decide +kernel
theorem nd_M_cut_47 : decode nb_M_cut 47 = .ok (.iload_n 2, 1) := by decide +kernel
theorem nd_M_cut_48 : decode nb_M_cut 48 = .ok (.iaload, 1) := by decide +kernel
theorem nd_M_cut_49 : decode nb_M_cut 49 = .ok (.i2l, 1) := by decide +kernel
theorem nd_M_cut_50 : decode nb_M_cut 50 = .ok (.lcmp, 1) := by decide +kernel
theorem nd_M_cut_51 : decode nb_M_cut 51 = .ok (.ifCond .gt 7, 3) := by decide +kernel
theorem nd_M_cut_54 : decode nb_M_cut 54 = .ok (.iconst 1, 1) := by decide +kernel
theorem nd_M_cut_55 : decode nb_M_cut 55 = .ok (.goto 4, 3) := by decide +kernel
theorem nd_M_cut_58 : decode nb_M_cut 58 = .ok (.iconst 0, 1) := by decide +kernel
theorem nd_M_cut_59 : decode nb_M_cut 59 = .ok (.iconst 2, 1) := by decide +kernel
theorem nd_M_cut_60 : decode nb_M_cut 60 = .ok (.invokevirtual 26, 3) := by decide +kernel
theorem nd_M_cut_63 : decode nb_M_cut 63 = .ok (.ifCond .ne 5, 3) := by decide +kernel
theorem nd_M_cut_66 : decode nb_M_cut 66 = .ok (.iconst 0, 1) := by decide +kernel
theorem nd_M_cut_67 : decode nb_M_cut 67 = .ok (.ireturn, 1) := by decide +kernel
theorem nd_M_cut_68 : decode nb_M_cut 68 = .ok (.aload_n 0, 1) := by decide +kernel
theorem nd_M_cut_69 : decode nb_M_cut 69 = .ok (.getfield 14, 3) := by decide +kernel
theorem nd_M_cut_72 : decode nb_M_cut 72 = .ok (.iload_n 2, 1) := by decide +kernel
theorem nd_M_cut_73 : decode nb_M_cut 73 = .ok (.iaload, 1) := by decide +kernel
theorem nd_M_cut_74 : decode nb_M_cut 74 = .ok (.iload_n 3, 1) := by decide +kernel
theorem nd_M_cut_75 : decode nb_M_cut 75 = .ok (.isub, 1) := by decide +kernel
theorem nd_M_cut_76 : decode nb_M_cut 76 = .ok (.iload 4, 2) := by decide +kernel
theorem nd_M_cut_78 : decode nb_M_cut 78 = .ok (.isub, 1) := by decide +kernel
theorem nd_M_cut_79 : decode nb_M_cut 79 = .ok (.istore 5, 2) := by decide +kernel
theorem nd_M_cut_81 : decode nb_M_cut 81 = .ok (.iconst 0, 1) := by decide +kernel
theorem nd_M_cut_82 : decode nb_M_cut 82 = .ok (.istore 6, 2) := by decide +kernel
theorem nd_M_cut_84 : decode nb_M_cut 84 = .ok (.iload 6, 2) := by decide +kernel
theorem nd_M_cut_86 : decode nb_M_cut 86 = .ok (.iload 5, 2) := by decide +kernel
theorem nd_M_cut_88 : decode nb_M_cut 88 = .ok (.if_icmp .ge 29, 3) := by decide +kernel
theorem nd_M_cut_91 : decode nb_M_cut 91 = .ok (.aload_n 0, 1) := by decide +kernel
theorem nd_M_cut_92 : decode nb_M_cut 92 = .ok (.getfield 11, 3) := by decide +kernel
theorem nd_M_cut_95 : decode nb_M_cut 95 = .ok (.iload_n 1, 1) := by decide +kernel
theorem nd_M_cut_96 : decode nb_M_cut 96 = .ok (.aaload, 1) := by decide +kernel
theorem nd_M_cut_97 : decode nb_M_cut 97 = .ok (.iload 6, 2) := by decide +kernel
theorem nd_M_cut_99 : decode nb_M_cut 99 = .ok (.aload_n 0, 1) := by decide +kernel
theorem nd_M_cut_100 : decode nb_M_cut 100 = .ok (.getfield 11, 3) := by decide +kernel
theorem nd_M_cut_103 : decode nb_M_cut 103 = .ok (.iload_n 2, 1) := by decide +kernel
theorem nd_M_cut_104 : decode nb_M_cut 104 = .ok (.aaload, 1) := by decide +kernel
theorem nd_M_cut_105 : decode nb_M_cut 105 = .ok (.iload 6, 2) := by decide +kernel
theorem nd_M_cut_107 : decode nb_M_cut 107 = .ok (.iload_n 3, 1) := by decide +kernel
theorem nd_M_cut_108 : decode nb_M_cut 108 = .ok (.iadd, 1) := by decide +kernel
theorem nd_M_cut_109 : decode nb_M_cut 109 = .ok (.laload, 1) := by decide +kernel
theorem nd_M_cut_110 : decode nb_M_cut 110 = .ok (.lastore, 1) := by decide +kernel
theorem nd_M_cut_111 : decode nb_M_cut 111 = .ok (.iinc 6 1, 3) := by decide +kernel
theorem nd_M_cut_114 : decode nb_M_cut 114 = .ok (.goto (-30), 3) := by decide +kernel
theorem nd_M_cut_117 : decode nb_M_cut 117 = .ok (.aload_n 0, 1) := by decide +kernel
theorem nd_M_cut_118 : decode nb_M_cut 118 = .ok (.getfield 14, 3) := by decide +kernel
theorem nd_M_cut_121 : decode nb_M_cut 121 = .ok (.iload_n 1, 1) := by decide +kernel
theorem nd_M_cut_122 : decode nb_M_cut 122 = .ok (.iload 5, 2) := by decide +kernel
theorem nd_M_cut_124 : decode nb_M_cut 124 = .ok (.iastore, 1) := by decide +kernel
theorem nd_M_cut_125 : decode nb_M_cut 125 = .ok (.iload 5, 2) := by decide +kernel
theorem nd_M_cut_127 : decode nb_M_cut 127 = .ok (.ireturn, 1) := by decide +kernel
theorem nd_M_fill_0 : decode nb_M_fill 0 = .ok (.aload_n 0, 1) := by decide +kernel
theorem nd_M_fill_1 : decode nb_M_fill 1 = .ok (.iload_n 1, 1) := by decide +kernel
theorem nd_M_fill_2 : decode nb_M_fill 2 = .ok (.invokestatic 22, 3) := by decide +kernel
theorem nd_M_fill_5 : decode nb_M_fill 5 = .ok (.ifCond .eq 20, 3) := by decide +kernel
theorem nd_M_fill_8 : decode nb_M_fill 8 = .ok (.iload 6, 2) := by decide +kernel
theorem nd_M_fill_10 : decode nb_M_fill 10 = .ok (.ifCond .lt 15, 3) := by decide +kernel
theorem nd_M_fill_13 : decode nb_M_fill 13 = .ok (.iload 6, 2) := by decide +kernel
theorem nd_M_fill_15 : decode nb_M_fill 15 = .ok (.sipush 2000, 3) := by decide +kernel
theorem nd_M_fill_18 : decode nb_M_fill 18 = .ok (.if_icmp .gt 7, 3) := by decide +kernel
theorem nd_M_fill_21 : decode nb_M_fill 21 = .ok (.iconst 1, 1) := by decide +kernel
theorem nd_M_fill_22 : decode nb_M_fill 22 = .ok (.goto 4, 3) := by decide +kernel
theorem nd_M_fill_25 : decode nb_M_fill 25 = .ok (.iconst 0, 1) := by decide +kernel
theorem nd_M_fill_26 : decode nb_M_fill 26 = .ok (.iconst 1, 1) := by decide +kernel
theorem nd_M_fill_27 : decode nb_M_fill 27 = .ok (.invokevirtual 26, 3) := by decide +kernel
theorem nd_M_fill_30 : decode nb_M_fill 30 = .ok (.ifCond .ne 5, 3) := by decide +kernel
theorem nd_M_fill_33 : decode nb_M_fill 33 = .ok (.iconst 0, 1) := by decide +kernel
theorem nd_M_fill_34 : decode nb_M_fill 34 = .ok (.ireturn, 1) := by decide +kernel
theorem nd_M_fill_35 : decode nb_M_fill 35 = .ok (.iconst 0, 1) := by decide +kernel
theorem nd_M_fill_36 : decode nb_M_fill 36 = .ok (.istore 7, 2) := by decide +kernel
theorem nd_M_fill_38 : decode nb_M_fill 38 = .ok (.iload 7, 2) := by decide +kernel
theorem nd_M_fill_40 : decode nb_M_fill 40 = .ok (.iload 6, 2) := by decide +kernel
theorem nd_M_fill_42 : decode nb_M_fill 42 = .ok (.if_icmp .ge 26, 3) := by decide +kernel
theorem nd_M_fill_45 : decode nb_M_fill 45 = .ok (.aload_n 0, 1) := by decide +kernel
theorem nd_M_fill_46 : decode nb_M_fill 46 = .ok (.getfield 11, 3) := by decide +kernel
theorem nd_M_fill_49 : decode nb_M_fill 49 = .ok (.iload_n 1, 1) := by decide +kernel
theorem nd_M_fill_50 : decode nb_M_fill 50 = .ok (.aaload, 1) := by decide +kernel
theorem nd_M_fill_51 : decode nb_M_fill 51 = .ok (.iload 7, 2) := by decide +kernel
theorem nd_M_fill_53 : decode nb_M_fill 53 = .ok (.lload_n 2, 1) := by decide +kernel
theorem nd_M_fill_54 : decode nb_M_fill 54 = .ok (.iload 7, 2) := by decide +kernel
theorem nd_M_fill_56 : decode nb_M_fill 56 = .ok (.i2l, 1) := by decide +kernel
theorem nd_M_fill_57 : decode nb_M_fill 57 = .ok (.lload 4, 2) := by decide +kernel
theorem nd_M_fill_59 : decode nb_M_fill 59 = .ok (.lmul, 1) := by decide +kernel
theorem nd_M_fill_60 : decode nb_M_fill 60 = .ok (.ladd, 1) := by decide +kernel
theorem nd_M_fill_61 : decode nb_M_fill 61 = .ok (.lastore, 1) := by decide +kernel
theorem nd_M_fill_62 : decode nb_M_fill 62 = .ok (.iinc 7 1, 3) := by decide +kernel
theorem nd_M_fill_65 : decode nb_M_fill 65 = .ok (.goto (-27), 3) := by decide +kernel
theorem nd_M_fill_68 : decode nb_M_fill 68 = .ok (.aload_n 0, 1) := by decide +kernel
theorem nd_M_fill_69 : decode nb_M_fill 69 = .ok (.getfield 14, 3) := by decide +kernel
theorem nd_M_fill_72 : decode nb_M_fill 72 = .ok (.iload_n 1, 1) := by decide +kernel
theorem nd_M_fill_73 : decode nb_M_fill 73 = .ok (.iload 6, 2) := by decide +kernel
theorem nd_M_fill_75 : decode nb_M_fill 75 = .ok (.iastore, 1) := by decide +kernel
theorem nd_M_fill_76 : decode nb_M_fill 76 = .ok (.iload 6, 2) := by decide +kernel
theorem nd_M_fill_78 : decode nb_M_fill 78 = .ok (.ireturn, 1) := by decide +kernel
theorem nd_M_size_0 : decode nb_M_size 0 = .ok (.aload_n 0, 1) := by decide +kernel
theorem nd_M_size_1 : decode nb_M_size 1 = .ok (.iload_n 1, 1) := by decide +kernel
theorem nd_M_size_2 : decode nb_M_size 2 = .ok (.invokestatic 22, 3) := by decide +kernel
theorem nd_M_size_5 : decode nb_M_size 5 = .ok (.iconst 1, 1) := by decide +kernel
theorem nd_M_size_6 : decode nb_M_size 6 = .ok (.invokevirtual 26, 3) := by decide +kernel
theorem nd_M_size_9 : decode nb_M_size 9 = .ok (.ifCond .eq 12, 3) := by decide +kernel
theorem nd_M_size_12 : decode nb_M_size 12 = .ok (.aload_n 0, 1) := by decide +kernel
theorem nd_M_size_13 : decode nb_M_size 13 = .ok (.getfield 14, 3) := by decide +kernel
theorem nd_M_size_16 : decode nb_M_size 16 = .ok (.iload_n 1, 1) := by decide +kernel
theorem nd_M_size_17 : decode nb_M_size 17 = .ok (.iaload, 1) := by decide +kernel
theorem nd_M_size_18 : decode nb_M_size 18 = .ok (.goto 4, 3) := by decide +kernel
theorem nd_M_size_21 : decode nb_M_size 21 = .ok (.iconst 0, 1) := by decide +kernel
theorem nd_M_size_22 : decode nb_M_size 22 = .ok (.ireturn, 1) := by decide +kernel
theorem nd_M_hash_0 : decode nb_M_hash 0 = .ok (.aload_n 0, 1) := by decide +kernel
theorem nd_M_hash_1 : decode nb_M_hash 1 = .ok (.iload_n 1, 1) := by decide +kernel
theorem nd_M_hash_2 : decode nb_M_hash 2 = .ok (.invokestatic 22, 3) := by decide +kernel
theorem nd_M_hash_5 : decode nb_M_hash 5 = .ok (.iconst 1, 1) := by decide +kernel
theorem nd_M_hash_6 : decode nb_M_hash 6 = .ok (.invokevirtual 26, 3) := by decide +kernel
theorem nd_M_hash_9 : decode nb_M_hash 9 = .ok (.ifCond .ne 5, 3) := by decide +kernel
theorem nd_M_hash_12 : decode nb_M_hash 12 = .ok (.lconst 0, 1) := by decide +kernel
theorem nd_M_hash_13 : decode nb_M_hash 13 = .ok (.lreturn, 1) := by decide +kernel
theorem nd_M_hash_14 : decode nb_M_hash 14 = .ok (.lconst 1, 1) := by decide +kernel
theorem nd_M_hash_15 : decode nb_M_hash 15 = .ok (.lstore_n 2, 1) := by decide +kernel
theorem nd_M_hash_16 : decode nb_M_hash 16 = .ok (.iconst 0, 1) := by decide +kernel
theorem nd_M_hash_17 : decode nb_M_hash 17 = .ok (.istore 4, 2) := by decide +kernel
theorem nd_M_hash_19 : decode nb_M_hash 19 = .ok (.iload 4, 2) := by decide +kernel
theorem nd_M_hash_21 : decode nb_M_hash 21 = .ok (.aload_n 0, 1) := by decide +kernel
theorem nd_M_hash_22 : decode nb_M_hash 22 = .ok (.getfield 14, 3) := by decide +kernel
theorem nd_M_hash_25 : decode nb_M_hash 25 = .ok (.iload_n 1, 1) := by decide +kernel
theorem nd_M_hash_26 : decode nb_M_hash 26 = .ok (.iaload, 1) := by decide +kernel
theorem nd_M_hash_27 : decode nb_M_hash 27 = .ok (.if_icmp .ge 25, 3) := by decide +kernel
theorem nd_M_hash_30 : decode nb_M_hash 30 = .ok (.ldc2_w 34, 3) := by decide +kernel
theorem nd_M_hash_33 : decode nb_M_hash 33 = .ok (.lload_n 2, 1) := by decide +kernel
theorem nd_M_hash_34 : decode nb_M_hash 34 = .ok (.lmul, 1) := by decide +kernel
theorem nd_M_hash_35 : decode nb_M_hash 35 = .ok (.aload_n 0, 1) := by decide +kernel
theorem nd_M_hash_36 : decode nb_M_hash 36 = .ok (.getfield 11, 3) := by decide +kernel
theorem nd_M_hash_39 : decode nb_M_hash 39 = .ok (.iload_n 1, 1) := by decide +kernel
theorem nd_M_hash_40 : decode nb_M_hash 40 = .ok (.aaload, 1) := by decide +kernel
theorem nd_M_hash_41 : decode nb_M_hash 41 = .ok (.iload 4, 2) := by decide +kernel
theorem nd_M_hash_43 : decode nb_M_hash 43 = .ok (.laload, 1) := by decide +kernel
theorem nd_M_hash_44 : decode nb_M_hash 44 = .ok (.ladd, 1) := by decide +kernel
theorem nd_M_hash_45 : decode nb_M_hash 45 = .ok (.lstore_n 2, 1) := by decide +kernel
theorem nd_M_hash_46 : decode nb_M_hash 46 = .ok (.iinc 4 1, 3) := by decide +kernel
theorem nd_M_hash_49 : decode nb_M_hash 49 = .ok (.goto (-30), 3) := by decide +kernel
theorem nd_M_hash_52 : decode nb_M_hash 52 = .ok (.lload_n 2, 1) := by decide +kernel
theorem nd_M_hash_53 : decode nb_M_hash 53 = .ok (.lreturn, 1) := by decide +kernel
theorem nd_M_open_0 : decode nb_M_open 0 = .ok (.aload_n 0, 1) := by decide +kernel
theorem nd_M_open_1 : decode nb_M_open 1 = .ok (.iload_n 1, 1) := by decide +kernel
theorem nd_M_open_2 : decode nb_M_open 2 = .ok (.invokestatic 22, 3) := by decide +kernel
theorem nd_M_open_5 : decode nb_M_open 5 = .ok (.iconst 1, 1) := by decide +kernel
theorem nd_M_open_6 : decode nb_M_open 6 = .ok (.invokevirtual 26, 3) := by decide +kernel
theorem nd_M_open_9 : decode nb_M_open 9 = .ok (.ifCond .eq 23, 3) := by decide +kernel
theorem nd_M_open_12 : decode nb_M_open 12 = .ok (.aload_n 0, 1) := by decide +kernel
theorem nd_M_open_13 : decode nb_M_open 13 = .ok (.aload_n 0, 1) := by decide +kernel
theorem nd_M_open_14 : decode nb_M_open 14 = .ok (.getfield 36, 3) := by decide +kernel
theorem nd_M_open_17 : decode nb_M_open 17 = .ok (.ifCond .ne 7, 3) := by decide +kernel
theorem nd_M_open_20 : decode nb_M_open 20 = .ok (.iconst 1, 1) := by decide +kernel
theorem nd_M_open_21 : decode nb_M_open 21 = .ok (.goto 4, 3) := by decide +kernel
theorem nd_M_open_24 : decode nb_M_open 24 = .ok (.iconst 0, 1) := by decide +kernel
theorem nd_M_open_25 : decode nb_M_open 25 = .ok (.iconst 2, 1) := by decide +kernel
theorem nd_M_open_26 : decode nb_M_open 26 = .ok (.invokevirtual 26, 3) := by decide +kernel
theorem nd_M_open_29 : decode nb_M_open 29 = .ok (.ifCond .ne 4, 3) := by decide +kernel
theorem nd_M_open_32 : decode nb_M_open 32 = .ok (.return_, 1) := by decide +kernel
theorem nd_M_open_33 : decode nb_M_open 33 = .ok (.aload_n 0, 1) := by decide +kernel
theorem nd_M_open_34 : decode nb_M_open 34 = .ok (.bipush 16, 2) := by decide +kernel
theorem nd_M_open_36 : decode nb_M_open 36 = .ok (.iload_n 1, 1) := by decide +kernel
theorem nd_M_open_37 : decode nb_M_open 37 = .ok (.invokevirtual 30, 3) := by decide +kernel
theorem nd_M_open_40 : decode nb_M_open 40 = .ok (.aload_n 0, 1) := by decide +kernel
theorem nd_M_open_41 : decode nb_M_open 41 = .ok (.iconst 1, 1) := by decide +kernel
theorem nd_M_open_42 : decode nb_M_open 42 = .ok (.putfield 36, 3) := by decide +kernel
theorem nd_M_open_45 : decode nb_M_open 45 = .ok (.return_, 1) := by decide +kernel
theorem nd_M_build_0 : decode nb_M_build 0 = .ok (.aload_n 0, 1) := by decide +kernel
theorem nd_M_build_1 : decode nb_M_build 1 = .ok (.iload_n 1, 1) := by decide +kernel
theorem nd_M_build_2 : decode nb_M_build 2 = .ok (.ifCond .lt 12, 3) := by decide +kernel
theorem nd_M_build_5 : decode nb_M_build 5 = .ok (.iload_n 1, 1) := by decide +kernel
theorem nd_M_build_6 : decode nb_M_build 6 = .ok (.iconst 2, 1) := by decide +kernel
theorem nd_M_build_7 : decode nb_M_build 7 = .ok (.if_icmp .gt 7, 3) := by decide +kernel
theorem nd_M_build_10 : decode nb_M_build 10 = .ok (.iconst 1, 1) := by decide +kernel
theorem nd_M_build_11 : decode nb_M_build 11 = .ok (.goto 4, 3) := by decide +kernel
theorem nd_M_build_14 : decode nb_M_build 14 = .ok (.iconst 0, 1) := by decide +kernel
theorem nd_M_build_15 : decode nb_M_build 15 = .ok (.iconst 1, 1) := by decide +kernel
theorem nd_M_build_16 : decode nb_M_build 16 = .ok (.invokevirtual 26, 3) := by decide +kernel
theorem nd_M_build_19 : decode nb_M_build 19 = .ok (.ifCond .eq 15, 3) := by decide +kernel
theorem nd_M_build_22 : decode nb_M_build 22 = .ok (.aload_n 0, 1) := by decide +kernel
theorem nd_M_build_23 : decode nb_M_build 23 = .ok (.aload_n 0, 1) := by decide +kernel
theorem nd_M_build_24 : decode nb_M_build 24 = .ok (.getfield 36, 3) := by decide +kernel
theorem nd_M_build_27 : decode nb_M_build 27 = .ok (.iconst 2, 1) := by decide +kernel
theorem nd_M_build_28 : decode nb_M_build 28 = .ok (.invokevirtual 26, 3) := by decide +kernel
theorem nd_M_build_31 : decode nb_M_build 31 = .ok (.ifCond .ne 5, 3) := by decide +kernel
theorem nd_M_build_34 : decode nb_M_build 34 = .ok (.iconst 0, 1) := by decide +kernel
theorem nd_M_build_35 : decode nb_M_build 35 = .ok (.ireturn, 1) := by decide +kernel
theorem nd_M_build_36 : decode nb_M_build 36 = .ok (.aload_n 0, 1) := by decide +kernel
theorem nd_M_build_37 : decode nb_M_build 37 = .ok (.getfield 14, 3) := by decide +kernel
theorem nd_M_build_40 : decode nb_M_build 40 = .ok (.bipush 16, 2) := by decide +kernel
theorem nd_M_build_42 : decode nb_M_build 42 = .ok (.iaload, 1) := by decide +kernel
theorem nd_M_build_43 : decode nb_M_build 43 = .ok (.istore 5, 2) := by decide +kernel
theorem nd_M_build_45 : decode nb_M_build 45 = .ok (.iload_n 1, 1) := by decide +kernel
theorem nd_M_build_46 : decode nb_M_build 46 = .ok (.ifCond .ne 51, 3) := by decide +kernel
theorem nd_M_build_49 : decode nb_M_build 49 = .ok (.aload_n 0, 1) := by decide +kernel
theorem nd_M_build_50 : decode nb_M_build 50 = .ok (.iload 5, 2) := by decide +kernel
theorem nd_M_build_52 : decode nb_M_build 52 = .ok (.sipush 3000, 3) := by decide +kernel
theorem nd_M_build_55 : decode nb_M_build 55 = .ok (.if_icmp .ge 7, 3) := by decide +kernel
theorem nd_M_build_58 : decode nb_M_build 58 = .ok (.iconst 1, 1) := by decide +kernel
theorem nd_M_build_59 : decode nb_M_build 59 = .ok (.goto 4, 3) := by decide +kernel
theorem nd_M_build_62 : decode nb_M_build 62 = .ok (.iconst 0, 1) := by decide +kernel
theorem nd_M_build_63 : decode nb_M_build 63 = .ok (.iconst 4, 1) := by decide +kernel
theorem nd_M_build_64 : decode nb_M_build 64 = .ok (.invokevirtual 26, 3) := by decide +kernel
theorem nd_M_build_67 : decode nb_M_build 67 = .ok (.ifCond .ne 5, 3) := by decide +kernel
theorem nd_M_build_70 : decode nb_M_build 70 = .ok (.iconst 0, 1) := by decide +kernel
theorem nd_M_build_71 : decode nb_M_build 71 = .ok (.ireturn, 1) := by decide +kernel
theorem nd_M_build_72 : decode nb_M_build 72 = .ok (.aload_n 0, 1) := by decide +kernel
theorem nd_M_build_73 : decode nb_M_build 73 = .ok (.getfield 11, 3) := by decide +kernel
theorem nd_M_build_76 : decode nb_M_build 76 = .ok (.bipush 16, 2) := by decide +kernel
theorem nd_M_build_78 : decode nb_M_build 78 = .ok (.aaload, 1) := by decide +kernel
theorem nd_M_build_79 : decode nb_M_build 79 = .ok (.iload 5, 2) := by decide +kernel
theorem nd_M_build_81 : decode nb_M_build 81 = .ok (.lload_n 3, 1) := by decide +kernel
theorem nd_M_build_82 : decode nb_M_build 82 = .ok (.lastore, 1) := by decide +kernel
theorem nd_M_build_83 : decode nb_M_build 83 = .ok (.aload_n 0, 1) := by decide +kernel
theorem nd_M_build_84 : decode nb_M_build 84 = .ok (.getfield 14, 3) := by decide +kernel
theorem nd_M_build_87 : decode nb_M_build 87 = .ok (.bipush 16, 2) := by decide +kernel
theorem nd_M_build_89 : decode nb_M_build 89 = .ok (.dup2, 1) := by decide +kernel
theorem nd_M_build_90 : decode nb_M_build 90 = .ok (.iaload, 1) := by decide +kernel
theorem nd_M_build_91 : decode nb_M_build 91 = .ok (.iconst 1, 1) := by decide +kernel
theorem nd_M_build_92 : decode nb_M_build 92 = .ok (.iadd, 1) := by decide +kernel
theorem nd_M_build_93 : decode nb_M_build 93 = .ok (.iastore, 1) := by decide +kernel
theorem nd_M_build_94 : decode nb_M_build 94 = .ok (.goto 77, 3) := by decide +kernel
theorem nd_M_build_97 : decode nb_M_build 97 = .ok (.iload_n 1, 1) := by decide +kernel
theorem nd_M_build_98 : decode nb_M_build 98 = .ok (.iconst 1, 1) := by decide +kernel
theorem nd_M_build_99 : decode nb_M_build 99 = .ok (.if_icmp .ne 41, 3) := by decide +kernel
theorem nd_M_build_102 : decode nb_M_build 102 = .ok (.aload_n 0, 1) := by decide +kernel
theorem nd_M_build_103 : decode nb_M_build 103 = .ok (.iload_n 2, 1) := by decide +kernel
theorem nd_M_build_104 : decode nb_M_build 104 = .ok (.ifCond .lt 13, 3) := by decide +kernel
theorem nd_M_build_107 : decode nb_M_build 107 = .ok (.iload_n 2, 1) := by decide +kernel
theorem nd_M_build_108 : decode nb_M_build 108 = .ok (.iload 5, 2) := by decide +kernel
theorem nd_M_build_110 : decode nb_M_build 110 = .ok (.if_icmp .ge 7, 3) := by decide +kernel
theorem nd_M_build_113 : decode nb_M_build 113 = .ok (.iconst 1, 1) := by decide +kernel
theorem nd_M_build_114 : decode nb_M_build 114 = .ok (.goto 4, 3) := by decide +kernel
theorem nd_M_build_117 : decode nb_M_build 117 = .ok (.iconst 0, 1) := by decide +kernel
theorem nd_M_build_118 : decode nb_M_build 118 = .ok (.iconst 3, 1) := by decide +kernel
theorem nd_M_build_119 : decode nb_M_build 119 = .ok (.invokevirtual 26, 3) := by decide +kernel
theorem nd_M_build_122 : decode nb_M_build 122 = .ok (.ifCond .ne 5, 3) := by decide +kernel
theorem nd_M_build_125 : decode nb_M_build 125 = .ok (.iconst 0, 1) := by decide +kernel
theorem nd_M_build_126 : decode nb_M_build 126 = .ok (.ireturn, 1) := by decide +kernel
theorem nd_M_build_127 : decode nb_M_build 127 = .ok (.aload_n 0, 1) := by decide +kernel
theorem nd_M_build_128 : decode nb_M_build 128 = .ok (.getfield 11, 3) := by decide +kernel
theorem nd_M_build_131 : decode nb_M_build 131 = .ok (.bipush 16, 2) := by decide +kernel
theorem nd_M_build_133 : decode nb_M_build 133 = .ok (.aaload, 1) := by decide +kernel
theorem nd_M_build_134 : decode nb_M_build 134 = .ok (.iload_n 2, 1) := by decide +kernel
theorem nd_M_build_135 : decode nb_M_build 135 = .ok (.lload_n 3, 1) := by decide +kernel
theorem nd_M_build_136 : decode nb_M_build 136 = .ok (.lastore, 1) := by decide +kernel
theorem nd_M_build_137 : decode nb_M_build 137 = .ok (.goto 34, 3) := by decide +kernel
theorem nd_M_build_140 : decode nb_M_build 140 = .ok (.aload_n 0, 1) := by decide +kernel
theorem nd_M_build_141 : decode nb_M_build 141 = .ok (.iload 5, 2) := by decide +kernel
theorem nd_M_build_143 : decode nb_M_build 143 = .ok (.ifCond .le 7, 3) := by decide +kernel
theorem nd_M_build_146 : decode nb_M_build 146 = .ok (.iconst 1, 1) := by decide +kernel
theorem nd_M_build_147 : decode nb_M_build 147 = .ok (.goto 4, 3) := by decide +kernel
theorem nd_M_build_150 : decode nb_M_build 150 = .ok (.iconst 0, 1) := by decide +kernel
theorem nd_M_build_151 : decode nb_M_build 151 = .ok (.iconst 3, 1) := by decide +kernel
theorem nd_M_build_152 : decode nb_M_build 152 = .ok (.invokevirtual 26, 3) := by decide +kernel
theorem nd_M_build_155 : decode nb_M_build 155 = .ok (.ifCond .ne 5, 3) := by decide +kernel
theorem nd_M_build_158 : decode nb_M_build 158 = .ok (.iconst 0, 1) := by decide +kernel
theorem nd_M_build_159 : decode nb_M_build 159 = .ok (.ireturn, 1) := by decide +kernel
theorem nd_M_build_160 : decode nb_M_build 160 = .ok (.aload_n 0, 1) := by decide +kernel
theorem nd_M_build_161 : decode nb_M_build 161 = .ok (.getfield 14, 3) := by decide +kernel
theorem nd_M_build_164 : decode nb_M_build 164 = .ok (.bipush 16, 2) := by decide +kernel
theorem nd_M_build_166 : decode nb_M_build 166 = .ok (.dup2, 1) := by decide +kernel
theorem nd_M_build_167 : decode nb_M_build 167 = .ok (.iaload, 1) := by decide +kernel
theorem nd_M_build_168 : decode nb_M_build 168 = .ok (.iconst 1, 1) := by decide +kernel
theorem nd_M_build_169 : decode nb_M_build 169 = .ok (.isub, 1) := by decide +kernel
theorem nd_M_build_170 : decode nb_M_build 170 = .ok (.iastore, 1) := by decide +kernel
theorem nd_M_build_171 : decode nb_M_build 171 = .ok (.aload_n 0, 1) := by decide +kernel
theorem nd_M_build_172 : decode nb_M_build 172 = .ok (.getfield 14, 3) := by decide +kernel
theorem nd_M_build_175 : decode nb_M_build 175 = .ok (.bipush 16, 2) := by decide +kernel
theorem nd_M_build_177 : decode nb_M_build 177 = .ok (.iaload, 1) := by decide +kernel
theorem nd_M_build_178 : decode nb_M_build 178 = .ok (.ireturn, 1) := by decide +kernel
theorem nd_M_freeze_0 : decode nb_M_freeze 0 = .ok (.aload_n 0, 1) := by decide +kernel
theorem nd_M_freeze_1 : decode nb_M_freeze 1 = .ok (.iload_n 1, 1) := by decide +kernel
theorem nd_M_freeze_2 : decode nb_M_freeze 2 = .ok (.invokestatic 22, 3) := by decide +kernel
theorem nd_M_freeze_5 : decode nb_M_freeze 5 = .ok (.iconst 1, 1) := by decide +kernel
theorem nd_M_freeze_6 : decode nb_M_freeze 6 = .ok (.invokevirtual 26, 3) := by decide +kernel
theorem nd_M_freeze_9 : decode nb_M_freeze 9 = .ok (.ifCond .eq 15, 3) := by decide +kernel
theorem nd_M_freeze_12 : decode nb_M_freeze 12 = .ok (.aload_n 0, 1) := by decide +kernel
theorem nd_M_freeze_13 : decode nb_M_freeze 13 = .ok (.aload_n 0, 1) := by decide +kernel
theorem nd_M_freeze_14 : decode nb_M_freeze 14 = .ok (.getfield 36, 3) := by decide +kernel
theorem nd_M_freeze_17 : decode nb_M_freeze 17 = .ok (.iconst 2, 1) := by decide +kernel
theorem nd_M_freeze_18 : decode nb_M_freeze 18 = .ok (.invokevirtual 26, 3) := by decide +kernel
theorem nd_M_freeze_21 : decode nb_M_freeze 21 = .ok (.ifCond .ne 5, 3) := by decide +kernel
theorem nd_M_freeze_24 : decode nb_M_freeze 24 = .ok (.iconst 0, 1) := by decide +kernel
theorem nd_M_freeze_25 : decode nb_M_freeze 25 = .ok (.ireturn, 1) := by decide +kernel
theorem nd_M_freeze_26 : decode nb_M_freeze 26 = .ok (.aload_n 0, 1) := by decide +kernel
theorem nd_M_freeze_27 : decode nb_M_freeze 27 = .ok (.iload_n 1, 1) := by decide +kernel
theorem nd_M_freeze_28 : decode nb_M_freeze 28 = .ok (.bipush 16, 2) := by decide +kernel
theorem nd_M_freeze_30 : decode nb_M_freeze 30 = .ok (.invokevirtual 30, 3) := by decide +kernel
theorem nd_M_freeze_33 : decode nb_M_freeze 33 = .ok (.aload_n 0, 1) := by decide +kernel
theorem nd_M_freeze_34 : decode nb_M_freeze 34 = .ok (.iconst 0, 1) := by decide +kernel
theorem nd_M_freeze_35 : decode nb_M_freeze 35 = .ok (.putfield 36, 3) := by decide +kernel
theorem nd_M_freeze_38 : decode nb_M_freeze 38 = .ok (.aload_n 0, 1) := by decide +kernel
theorem nd_M_freeze_39 : decode nb_M_freeze 39 = .ok (.getfield 14, 3) := by decide +kernel
theorem nd_M_freeze_42 : decode nb_M_freeze 42 = .ok (.iload_n 1, 1) := by decide +kernel
theorem nd_M_freeze_43 : decode nb_M_freeze 43 = .ok (.iaload, 1) := by decide +kernel
theorem nd_M_freeze_44 : decode nb_M_freeze 44 = .ok (.ireturn, 1) := by decide +kernel
