theorem dJ0_length_8abf5_0 : decode cJ0_length_8abf5 0 = .ok (.aload_n 0, 1) := by decide +kernel
theorem dJ0_length_8abf5_1 : decode cJ0_length_8abf5 1 = .ok (.getfield 9, 3) := by decide +kernel
theorem dJ0_length_8abf5_4 : decode cJ0_length_8abf5 4 = .ok (.arraylength, 1) := by decide +kernel
theorem dJ0_length_8abf5_5 : decode cJ0_length_8abf5 5 = .ok (.aload_n 0, 1) := by decide +kernel
theorem dJ0_length_8abf5_6 : decode cJ0_length_8abf5 6 = .ok (.invokevirtual 335, 3) := by decide +kernel
theorem dJ0_length_8abf5_9 : decode cJ0_length_8abf5 9 = .ok (.ishr, 1) := by decide +kernel
theorem dJ0_length_8abf5_10 : decode cJ0_length_8abf5 10 = .ok (.ireturn, 1) := by decide +kernel
theorem dJ0_coder_7d493_0 : decode cJ0_coder_7d493 0 = .ok (.getstatic 38, 3) := by decide +kernel
theorem dJ0_coder_7d493_3 : decode cJ0_coder_7d493 3 = .ok (.ifCond .eq 10, 3) := by decide +kernel
theorem dJ0_coder_7d493_6 : decode cJ0_coder_7d493 6 = .ok (.aload_n 0, 1) := by decide +kernel
theorem dJ0_coder_7d493_7 : decode cJ0_coder_7d493 7 = .ok (.getfield 15, 3) := by decide +kernel
theorem dJ0_coder_7d493_10 : decode cJ0_coder_7d493 10 = .ok (.goto 4, 3) := by decide +kernel
theorem dJ0_coder_7d493_13 : decode cJ0_coder_7d493 13 = .ok (.iconst 1, 1) := by decide +kernel
theorem dJ0_coder_7d493_14 : decode cJ0_coder_7d493 14 = .ok (.ireturn, 1) := by decide +kernel
theorem dJ0_isLatin1_aae02_0 : decode cJ0_isLatin1_aae02 0 = .ok (.getstatic 38, 3) := by decide +kernel
theorem dJ0_isLatin1_aae02_3 : decode cJ0_isLatin1_aae02 3 = .ok (.ifCond .eq 14, 3) := by decide +kernel
theorem dJ0_isLatin1_aae02_6 : decode cJ0_isLatin1_aae02 6 = .ok (.aload_n 0, 1) := by decide +kernel
theorem dJ0_isLatin1_aae02_7 : decode cJ0_isLatin1_aae02 7 = .ok (.getfield 15, 3) := by decide +kernel
theorem dJ0_isLatin1_aae02_10 : decode cJ0_isLatin1_aae02 10 = .ok (.ifCond .ne 7, 3) := by decide +kernel
theorem dJ0_isLatin1_aae02_13 : decode cJ0_isLatin1_aae02 13 = .ok (.iconst 1, 1) := by decide +kernel
theorem dJ0_isLatin1_aae02_14 : decode cJ0_isLatin1_aae02 14 = .ok (.goto 4, 3) := by decide +kernel
theorem dJ0_isLatin1_aae02_17 : decode cJ0_isLatin1_aae02 17 = .ok (.iconst 0, 1) := by decide +kernel
theorem dJ0_isLatin1_aae02_18 : decode cJ0_isLatin1_aae02 18 = .ok (.ireturn, 1) := by decide +kernel
theorem dJ0_charAt_5068e_0 : decode cJ0_charAt_5068e 0 = .ok (.aload_n 0, 1) := by decide +kernel
theorem dJ0_charAt_5068e_1 : decode cJ0_charAt_5068e 1 = .ok (.invokevirtual 492, 3) := by decide +kernel
theorem dJ0_charAt_5068e_4 : decode cJ0_charAt_5068e 4 = .ok (.ifCond .eq 12, 3) := by decide +kernel
theorem dJ0_charAt_5068e_7 : decode cJ0_charAt_5068e 7 = .ok (.aload_n 0, 1) := by decide +kernel
theorem dJ0_charAt_5068e_8 : decode cJ0_charAt_5068e 8 = .ok (.getfield 9, 3) := by decide +kernel
theorem dJ0_charAt_5068e_11 : decode cJ0_charAt_5068e 11 = .ok (.iload_n 1, 1) := by decide +kernel
theorem dJ0_charAt_5068e_12 : decode cJ0_charAt_5068e 12 = .ok (.invokestatic 495, 3) := by decide +kernel
theorem dJ0_charAt_5068e_15 : decode cJ0_charAt_5068e 15 = .ok (.ireturn, 1) := by decide +kernel
theorem dJ0_charAt_5068e_16 : decode cJ0_charAt_5068e 16 = .ok (.aload_n 0, 1) := by decide +kernel
theorem dJ0_charAt_5068e_17 : decode cJ0_charAt_5068e 17 = .ok (.getfield 9, 3) := by decide +kernel
theorem dJ0_charAt_5068e_20 : decode cJ0_charAt_5068e 20 = .ok (.iload_n 1, 1) := by decide +kernel
theorem dJ0_charAt_5068e_21 : decode cJ0_charAt_5068e 21 = .ok (.invokestatic 498, 3) := by decide +kernel
theorem dJ0_charAt_5068e_24 : decode cJ0_charAt_5068e 24 = .ok (.ireturn, 1) := by decide +kernel
theorem dJ0_checkIndex_df160_0 : decode cJ0_checkIndex_df160 0 = .ok (.iload_n 0, 1) := by decide +kernel
theorem dJ0_checkIndex_df160_1 : decode cJ0_checkIndex_df160 1 = .ok (.iload_n 1, 1) := by decide +kernel
theorem dJ0_checkIndex_df160_2 : decode cJ0_checkIndex_df160 2 = .ok (.getstatic 1053, 3) := by decide +kernel
theorem dJ0_checkIndex_df160_5 : decode cJ0_checkIndex_df160 5 = .ok (.invokestatic 1059, 3) := by decide +kernel
theorem dJ0_checkIndex_df160_8 : decode cJ0_checkIndex_df160 8 = .ok (.pop, 1) := by decide +kernel
theorem dJ0_checkIndex_df160_9 : decode cJ0_checkIndex_df160 9 = .ok (.return_, 1) := by decide +kernel
theorem dJ1_charAt_3b067_0 : decode cJ1_charAt_3b067 0 = .ok (.iload_n 1, 1) := by decide +kernel
theorem dJ1_charAt_3b067_1 : decode cJ1_charAt_3b067 1 = .ok (.aload_n 0, 1) := by decide +kernel
theorem dJ1_charAt_3b067_2 : decode cJ1_charAt_3b067 2 = .ok (.arraylength, 1) := by decide +kernel
theorem dJ1_charAt_3b067_3 : decode cJ1_charAt_3b067 3 = .ok (.invokestatic 9, 3) := by decide +kernel
theorem dJ1_charAt_3b067_6 : decode cJ1_charAt_3b067 6 = .ok (.aload_n 0, 1) := by decide +kernel
theorem dJ1_charAt_3b067_7 : decode cJ1_charAt_3b067 7 = .ok (.iload_n 1, 1) := by decide +kernel
theorem dJ1_charAt_3b067_8 : decode cJ1_charAt_3b067 8 = .ok (.baload, 1) := by decide +kernel
theorem dJ1_charAt_3b067_9 : decode cJ1_charAt_3b067 9 = .ok (.sipush 255, 3) := by decide +kernel
theorem dJ1_charAt_3b067_12 : decode cJ1_charAt_3b067 12 = .ok (.iand, 1) := by decide +kernel
theorem dJ1_charAt_3b067_13 : decode cJ1_charAt_3b067 13 = .ok (.i2c, 1) := by decide +kernel
theorem dJ1_charAt_3b067_14 : decode cJ1_charAt_3b067 14 = .ok (.ireturn, 1) := by decide +kernel
theorem dJ3_checkIndex_8e157_0 : decode cJ3_checkIndex_8e157 0 = .ok (.iload_n 0, 1) := by decide +kernel
theorem dJ3_checkIndex_8e157_1 : decode cJ3_checkIndex_8e157 1 = .ok (.ifCond .lt 8, 3) := by decide +kernel
theorem dJ3_checkIndex_8e157_4 : decode cJ3_checkIndex_8e157 4 = .ok (.iload_n 0, 1) := by decide +kernel
theorem dJ3_checkIndex_8e157_5 : decode cJ3_checkIndex_8e157 5 = .ok (.iload_n 1, 1) := by decide +kernel
theorem dJ3_checkIndex_8e157_6 : decode cJ3_checkIndex_8e157 6 = .ok (.if_icmp .lt 10, 3) := by decide +kernel
theorem dJ3_checkIndex_8e157_9 : decode cJ3_checkIndex_8e157 9 = .ok (.aload_n 2, 1) := by decide +kernel
theorem dJ3_checkIndex_8e157_10 : decode cJ3_checkIndex_8e157 10 = .ok (.iload_n 0, 1) := by decide +kernel
theorem dJ3_checkIndex_8e157_11 : decode cJ3_checkIndex_8e157 11 = .ok (.iload_n 1, 1) := by decide +kernel
theorem dJ3_checkIndex_8e157_12 : decode cJ3_checkIndex_8e157 12 = .ok (.invokestatic 95, 3) := by decide +kernel
theorem dJ3_checkIndex_8e157_15 : decode cJ3_checkIndex_8e157 15 = .ok (.athrow, 1) := by decide +kernel
theorem dJ3_checkIndex_8e157_16 : decode cJ3_checkIndex_8e157 16 = .ok (.iload_n 0, 1) := by decide +kernel
theorem dJ3_checkIndex_8e157_17 : decode cJ3_checkIndex_8e157 17 = .ok (.ireturn, 1) := by decide +kernel
theorem dX0_init_0 : decode cX0_init 0 = .ok (.aload_n 0, 1) := by decide +kernel
theorem dX0_init_1 : decode cX0_init 1 = .ok (.invokespecial 3, 3) := by decide +kernel
theorem dX0_init_4 : decode cX0_init 4 = .ok (.aload_n 0, 1) := by decide +kernel
theorem dX0_init_5 : decode cX0_init 5 = .ok (.iconst 4, 1) := by decide +kernel
theorem dX0_init_6 : decode cX0_init 6 = .ok (.newarray .int, 2) := by decide +kernel
theorem dX0_init_8 : decode cX0_init 8 = .ok (.putfield 9, 3) := by decide +kernel
theorem dX0_init_11 : decode cX0_init 11 = .ok (.aload_n 0, 1) := by decide +kernel
theorem dX0_init_12 : decode cX0_init 12 = .ok (.bipush 8, 2) := by decide +kernel
theorem dX0_init_14 : decode cX0_init 14 = .ok (.newarray .int, 2) := by decide +kernel
theorem dX0_init_16 : decode cX0_init 16 = .ok (.putfield 15, 3) := by decide +kernel
theorem dX0_init_19 : decode cX0_init 19 = .ok (.aload_n 0, 1) := by decide +kernel
theorem dX0_init_20 : decode cX0_init 20 = .ok (.bipush 8, 2) := by decide +kernel
theorem dX0_init_22 : decode cX0_init 22 = .ok (.newarray .int, 2) := by decide +kernel
theorem dX0_init_24 : decode cX0_init 24 = .ok (.putfield 18, 3) := by decide +kernel
theorem dX0_init_27 : decode cX0_init 27 = .ok (.aload_n 0, 1) := by decide +kernel
theorem dX0_init_28 : decode cX0_init 28 = .ok (.bipush 8, 2) := by decide +kernel
theorem dX0_init_30 : decode cX0_init 30 = .ok (.newarray .int, 2) := by decide +kernel
theorem dX0_init_32 : decode cX0_init 32 = .ok (.putfield 21, 3) := by decide +kernel
theorem dX0_init_35 : decode cX0_init 35 = .ok (.return_, 1) := by decide +kernel
theorem dX0_begin_0 : decode cX0_begin 0 = .ok (.aload_n 0, 1) := by decide +kernel
theorem dX0_begin_1 : decode cX0_begin 1 = .ok (.lload_n 1, 1) := by decide +kernel
theorem dX0_begin_2 : decode cX0_begin 2 = .ok (.putfield 24, 3) := by decide +kernel
theorem dX0_begin_5 : decode cX0_begin 5 = .ok (.aload_n 0, 1) := by decide +kernel
theorem dX0_begin_6 : decode cX0_begin 6 = .ok (.iconst 2, 1) := by decide +kernel
theorem dX0_begin_7 : decode cX0_begin 7 = .ok (.putfield 28, 3) := by decide +kernel
theorem dX0_begin_10 : decode cX0_begin 10 = .ok (.aload_n 0, 1) := by decide +kernel
theorem dX0_begin_11 : decode cX0_begin 11 = .ok (.iconst 0, 1) := by decide +kernel
theorem dX0_begin_12 : decode cX0_begin 12 = .ok (.putfield 32, 3) := by decide +kernel
theorem dX0_begin_15 : decode cX0_begin 15 = .ok (.aload_n 0, 1) := by decide +kernel
theorem dX0_begin_16 : decode cX0_begin 16 = .ok (.iconst 0, 1) := by decide +kernel
theorem dX0_begin_17 : decode cX0_begin 17 = .ok (.putfield 35, 3) := by decide +kernel
theorem dX0_begin_20 : decode cX0_begin 20 = .ok (.aload_n 0, 1) := by decide +kernel
theorem dX0_begin_21 : decode cX0_begin 21 = .ok (.iconst 0, 1) := by decide +kernel
theorem dX0_begin_22 : decode cX0_begin 22 = .ok (.putfield 38, 3) := by decide +kernel
theorem dX0_begin_25 : decode cX0_begin 25 = .ok (.aload_n 0, 1) := by decide +kernel
theorem dX0_begin_26 : decode cX0_begin 26 = .ok (.iconst 0, 1) := by decide +kernel
theorem dX0_begin_27 : decode cX0_begin 27 = .ok (.putfield 41, 3) := by decide +kernel
theorem dX0_begin_30 : decode cX0_begin 30 = .ok (.aload_n 0, 1) := by decide +kernel
theorem dX0_begin_31 : decode cX0_begin 31 = .ok (.iconst 0, 1) := by decide +kernel
theorem dX0_begin_32 : decode cX0_begin 32 = .ok (.putfield 44, 3) := by decide +kernel
theorem dX0_begin_35 : decode cX0_begin 35 = .ok (.aload_n 0, 1) := by decide +kernel
theorem dX0_begin_36 : decode cX0_begin 36 = .ok (.iconst 0, 1) := by decide +kernel
theorem dX0_begin_37 : decode cX0_begin 37 = .ok (.putfield 48, 3) := by decide +kernel
theorem dX0_begin_40 : decode cX0_begin 40 = .ok (.aload_n 0, 1) := by decide +kernel
theorem dX0_begin_41 : decode cX0_begin 41 = .ok (.iconst 0, 1) := by decide +kernel
theorem dX0_begin_42 : decode cX0_begin 42 = .ok (.putfield 51, 3) := by decide +kernel
theorem dX0_begin_45 : decode cX0_begin 45 = .ok (.aload_n 0, 1) := by decide +kernel
theorem dX0_begin_46 : decode cX0_begin 46 = .ok (.iconst 0, 1) := by decide +kernel
theorem dX0_begin_47 : decode cX0_begin 47 = .ok (.putfield 54, 3) := by decide +kernel
theorem dX0_begin_50 : decode cX0_begin 50 = .ok (.aload_n 0, 1) := by decide +kernel
theorem dX0_begin_51 : decode cX0_begin 51 = .ok (.iconst 0, 1) := by decide +kernel
theorem dX0_begin_52 : decode cX0_begin 52 = .ok (.putfield 57, 3) := by decide +kernel
theorem dX0_begin_55 : decode cX0_begin 55 = .ok (.aload_n 0, 1) := by decide +kernel
theorem dX0_begin_56 : decode cX0_begin 56 = .ok (.invokevirtual 60, 3) := by decide +kernel
theorem dX0_begin_59 : decode cX0_begin 59 = .ok (.iconst 0, 1) := by decide +kernel
theorem dX0_begin_60 : decode cX0_begin 60 = .ok (.istore_n 3, 1) := by decide +kernel
theorem dX0_begin_61 : decode cX0_begin 61 = .ok (.iload_n 3, 1) := by decide +kernel
theorem dX0_begin_62 : decode cX0_begin 62 = .ok (.iconst 4, 1) := by decide +kernel
theorem dX0_begin_63 : decode cX0_begin 63 = .ok (.if_icmp .ge 16, 3) := by decide +kernel
theorem dX0_begin_66 : decode cX0_begin 66 = .ok (.aload_n 0, 1) := by decide +kernel
theorem dX0_begin_67 : decode cX0_begin 67 = .ok (.getfield 9, 3) := by decide +kernel
theorem dX0_begin_70 : decode cX0_begin 70 = .ok (.iload_n 3, 1) := by decide +kernel
theorem dX0_begin_71 : decode cX0_begin 71 = .ok (.iconst 0, 1) := by decide +kernel
theorem dX0_begin_72 : decode cX0_begin 72 = .ok (.iastore, 1) := by decide +kernel
theorem dX0_begin_73 : decode cX0_begin 73 = .ok (.iinc 3 1, 3) := by decide +kernel
theorem dX0_begin_76 : decode cX0_begin 76 = .ok (.goto (-15), 3) := by decide +kernel
theorem dX0_begin_79 : decode cX0_begin 79 = .ok (.iconst 0, 1) := by decide +kernel
theorem dX0_begin_80 : decode cX0_begin 80 = .ok (.istore_n 3, 1) := by decide +kernel
theorem dX0_begin_81 : decode cX0_begin 81 = .ok (.iload_n 3, 1) := by decide +kernel
theorem dX0_begin_82 : decode cX0_begin 82 = .ok (.bipush 8, 2) := by decide +kernel
theorem dX0_begin_84 : decode cX0_begin 84 = .ok (.if_icmp .ge 30, 3) := by decide +kernel
theorem dX0_begin_87 : decode cX0_begin 87 = .ok (.aload_n 0, 1) := by decide +kernel
theorem dX0_begin_88 : decode cX0_begin 88 = .ok (.getfield 15, 3) := by decide +kernel
theorem dX0_begin_91 : decode cX0_begin 91 = .ok (.iload_n 3, 1) := by decide +kernel
theorem dX0_begin_92 : decode cX0_begin 92 = .ok (.iconst (-1), 1) := by decide +kernel
theorem dX0_begin_93 : decode cX0_begin 93 = .ok (.iastore, 1) := by decide +kernel
theorem dX0_begin_94 : decode cX0_begin 94 = .ok (.aload_n 0, 1) := by decide +kernel
theorem dX0_begin_95 : decode cX0_begin 95 = .ok (.getfield 18, 3) := by decide +kernel
theorem dX0_begin_98 : decode cX0_begin 98 = .ok (.iload_n 3, 1) := by decide +kernel
theorem dX0_begin_99 : decode cX0_begin 99 = .ok (.iconst 0, 1) := by decide +kernel
theorem dX0_begin_100 : decode cX0_begin 100 = .ok (.iastore, 1) := by decide +kernel
theorem dX0_begin_101 : decode cX0_begin 101 = .ok (.aload_n 0, 1) := by decide +kernel
theorem dX0_begin_102 : decode cX0_begin 102 = .ok (.getfield 21, 3) := by decide +kernel
theorem dX0_begin_105 : decode cX0_begin 105 = .ok (.iload_n 3, 1) := by decide +kernel
theorem dX0_begin_106 : decode cX0_begin 106 = .ok (.iconst 5, 1) := by decide +kernel
theorem dX0_begin_107 : decode cX0_begin 107 = .ok (.iastore, 1) := by decide +kernel
theorem dX0_begin_108 : decode cX0_begin 108 = .ok (.iinc 3 1, 3) := by decide +kernel
theorem dX0_begin_111 : decode cX0_begin 111 = .ok (.goto (-30), 3) := by decide +kernel
theorem dX0_begin_114 : decode cX0_begin 114 = .ok (.return_, 1) := by decide +kernel
theorem dX0_copyFrom_0 : decode cX0_copyFrom 0 = .ok (.aload_n 0, 1) := by decide +kernel
theorem dX0_copyFrom_1 : decode cX0_copyFrom 1 = .ok (.aload_n 1, 1) := by decide +kernel
theorem dX0_copyFrom_2 : decode cX0_copyFrom 2 = .ok (.getfield 24, 3) := by decide +kernel
theorem dX0_copyFrom_5 : decode cX0_copyFrom 5 = .ok (.putfield 24, 3) := by decide +kernel
theorem dX0_copyFrom_8 : decode cX0_copyFrom 8 = .ok (.aload_n 0, 1) := by decide +kernel
theorem dX0_copyFrom_9 : decode cX0_copyFrom 9 = .ok (.aload_n 1, 1) := by decide +kernel
theorem dX0_copyFrom_10 : decode cX0_copyFrom 10 = .ok (.getfield 28, 3) := by decide +kernel
theorem dX0_copyFrom_13 : decode cX0_copyFrom 13 = .ok (.putfield 28, 3) := by decide +kernel
theorem dX0_copyFrom_16 : decode cX0_copyFrom 16 = .ok (.aload_n 0, 1) := by decide +kernel
theorem dX0_copyFrom_17 : decode cX0_copyFrom 17 = .ok (.aload_n 1, 1) := by decide +kernel
theorem dX0_copyFrom_18 : decode cX0_copyFrom 18 = .ok (.getfield 32, 3) := by decide +kernel
theorem dX0_copyFrom_21 : decode cX0_copyFrom 21 = .ok (.putfield 32, 3) := by decide +kernel
theorem dX0_copyFrom_24 : decode cX0_copyFrom 24 = .ok (.aload_n 0, 1) := by decide +kernel
theorem dX0_copyFrom_25 : decode cX0_copyFrom 25 = .ok (.aload_n 1, 1) := by decide +kernel
theorem dX0_copyFrom_26 : decode cX0_copyFrom 26 = .ok (.getfield 35, 3) := by decide +kernel
theorem dX0_copyFrom_29 : decode cX0_copyFrom 29 = .ok (.putfield 35, 3) := by decide +kernel
theorem dX0_copyFrom_32 : decode cX0_copyFrom 32 = .ok (.aload_n 0, 1) := by decide +kernel
theorem dX0_copyFrom_33 : decode cX0_copyFrom 33 = .ok (.aload_n 1, 1) := by decide +kernel
theorem dX0_copyFrom_34 : decode cX0_copyFrom 34 = .ok (.getfield 38, 3) := by decide +kernel
theorem dX0_copyFrom_37 : decode cX0_copyFrom 37 = .ok (.putfield 38, 3) := by decide +kernel
theorem dX0_copyFrom_40 : decode cX0_copyFrom 40 = .ok (.aload_n 0, 1) := by decide +kernel
theorem dX0_copyFrom_41 : decode cX0_copyFrom 41 = .ok (.aload_n 1, 1) := by decide +kernel
theorem dX0_copyFrom_42 : decode cX0_copyFrom 42 = .ok (.getfield 41, 3) := by decide +kernel
theorem dX0_copyFrom_45 : decode cX0_copyFrom 45 = .ok (.putfield 41, 3) := by decide +kernel
theorem dX0_copyFrom_48 : decode cX0_copyFrom 48 = .ok (.aload_n 0, 1) := by decide +kernel
theorem dX0_copyFrom_49 : decode cX0_copyFrom 49 = .ok (.aload_n 1, 1) := by decide +kernel
theorem dX0_copyFrom_50 : decode cX0_copyFrom 50 = .ok (.getfield 63, 3) := by decide +kernel
theorem dX0_copyFrom_53 : decode cX0_copyFrom 53 = .ok (.putfield 63, 3) := by decide +kernel
theorem dX0_copyFrom_56 : decode cX0_copyFrom 56 = .ok (.aload_n 0, 1) := by decide +kernel
theorem dX0_copyFrom_57 : decode cX0_copyFrom 57 = .ok (.aload_n 1, 1) := by decide +kernel
theorem dX0_copyFrom_58 : decode cX0_copyFrom 58 = .ok (.getfield 66, 3) := by decide +kernel
theorem dX0_copyFrom_61 : decode cX0_copyFrom 61 = .ok (.putfield 66, 3) := by decide +kernel
theorem dX0_copyFrom_64 : decode cX0_copyFrom 64 = .ok (.aload_n 0, 1) := by decide +kernel
theorem dX0_copyFrom_65 : decode cX0_copyFrom 65 = .ok (.aload_n 1, 1) := by decide +kernel
theorem dX0_copyFrom_66 : decode cX0_copyFrom 66 = .ok (.getfield 69, 3) := by decide +kernel
theorem dX0_copyFrom_69 : decode cX0_copyFrom 69 = .ok (.putfield 69, 3) := by decide +kernel
theorem dX0_copyFrom_72 : decode cX0_copyFrom 72 = .ok (.aload_n 0, 1) := by decide +kernel
theorem dX0_copyFrom_73 : decode cX0_copyFrom 73 = .ok (.aload_n 1, 1) := by decide +kernel
theorem dX0_copyFrom_74 : decode cX0_copyFrom 74 = .ok (.getfield 44, 3) := by decide +kernel
theorem dX0_copyFrom_77 : decode cX0_copyFrom 77 = .ok (.putfield 44, 3) := by decide +kernel
theorem dX0_copyFrom_80 : decode cX0_copyFrom 80 = .ok (.aload_n 0, 1) := by decide +kernel
theorem dX0_copyFrom_81 : decode cX0_copyFrom 81 = .ok (.aload_n 1, 1) := by decide +kernel
theorem dX0_copyFrom_82 : decode cX0_copyFrom 82 = .ok (.getfield 48, 3) := by decide +kernel
theorem dX0_copyFrom_85 : decode cX0_copyFrom 85 = .ok (.putfield 48, 3) := by decide +kernel
theorem dX0_copyFrom_88 : decode cX0_copyFrom 88 = .ok (.aload_n 0, 1) := by decide +kernel
theorem dX0_copyFrom_89 : decode cX0_copyFrom 89 = .ok (.aload_n 1, 1) := by decide +kernel
theorem dX0_copyFrom_90 : decode cX0_copyFrom 90 = .ok (.getfield 51, 3) := by decide +kernel
theorem dX0_copyFrom_93 : decode cX0_copyFrom 93 = .ok (.putfield 51, 3) := by decide +kernel
theorem dX0_copyFrom_96 : decode cX0_copyFrom 96 = .ok (.aload_n 0, 1) := by decide +kernel
theorem dX0_copyFrom_97 : decode cX0_copyFrom 97 = .ok (.aload_n 1, 1) := by decide +kernel
theorem dX0_copyFrom_98 : decode cX0_copyFrom 98 = .ok (.getfield 54, 3) := by decide +kernel
theorem dX0_copyFrom_101 : decode cX0_copyFrom 101 = .ok (.putfield 54, 3) := by decide +kernel
theorem dX0_copyFrom_104 : decode cX0_copyFrom 104 = .ok (.aload_n 0, 1) := by decide +kernel
theorem dX0_copyFrom_105 : decode cX0_copyFrom 105 = .ok (.aload_n 1, 1) := by decide +kernel
theorem dX0_copyFrom_106 : decode cX0_copyFrom 106 = .ok (.getfield 57, 3) := by decide +kernel
theorem dX0_copyFrom_109 : decode cX0_copyFrom 109 = .ok (.putfield 57, 3) := by decide +kernel
theorem dX0_copyFrom_112 : decode cX0_copyFrom 112 = .ok (.iconst 0, 1) := by decide +kernel
theorem dX0_copyFrom_113 : decode cX0_copyFrom 113 = .ok (.istore_n 2, 1) := by decide +kernel
theorem dX0_copyFrom_114 : decode cX0_copyFrom 114 = .ok (.iload_n 2, 1) := by decide +kernel
theorem dX0_copyFrom_115 : decode cX0_copyFrom 115 = .ok (.iconst 4, 1) := by decide +kernel
theorem dX0_copyFrom_116 : decode cX0_copyFrom 116 = .ok (.if_icmp .ge 21, 3) := by decide +kernel
theorem dX0_copyFrom_119 : decode cX0_copyFrom 119 = .ok (.aload_n 0, 1) := by decide +kernel
theorem dX0_copyFrom_120 : decode cX0_copyFrom 120 = .ok (.getfield 9, 3) := by decide +kernel
theorem dX0_copyFrom_123 : decode cX0_copyFrom 123 = .ok (.iload_n 2, 1) := by decide +kernel
theorem dX0_copyFrom_124 : decode cX0_copyFrom 124 = .ok (.aload_n 1, 1) := by decide +kernel
theorem dX0_copyFrom_125 : decode cX0_copyFrom 125 = .ok (.getfield 9, 3) := by decide +kernel
theorem dX0_copyFrom_128 : decode cX0_copyFrom 128 = .ok (.iload_n 2, 1) := by decide +kernel
theorem dX0_copyFrom_129 : decode cX0_copyFrom 129 = .ok (.iaload, 1) := by decide +kernel
theorem dX0_copyFrom_130 : decode cX0_copyFrom 130 = .ok (.iastore, 1) := by decide +kernel
theorem dX0_copyFrom_131 : decode cX0_copyFrom 131 = .ok (.iinc 2 1, 3) := by decide +kernel
theorem dX0_copyFrom_134 : decode cX0_copyFrom 134 = .ok (.goto (-20), 3) := by decide +kernel
theorem dX0_copyFrom_137 : decode cX0_copyFrom 137 = .ok (.iconst 0, 1) := by decide +kernel
theorem dX0_copyFrom_138 : decode cX0_copyFrom 138 = .ok (.istore_n 2, 1) := by decide +kernel
theorem dX0_copyFrom_139 : decode cX0_copyFrom 139 = .ok (.iload_n 2, 1) := by decide +kernel
theorem dX0_copyFrom_140 : decode cX0_copyFrom 140 = .ok (.bipush 8, 2) := by decide +kernel
theorem dX0_copyFrom_142 : decode cX0_copyFrom 142 = .ok (.if_icmp .ge 45, 3) := by decide +kernel
theorem dX0_copyFrom_145 : decode cX0_copyFrom 145 = .ok (.aload_n 0, 1) := by decide +kernel
theorem dX0_copyFrom_146 : decode cX0_copyFrom 146 = .ok (.getfield 15, 3) := by decide +kernel
theorem dX0_copyFrom_149 : decode cX0_copyFrom 149 = .ok (.iload_n 2, 1) := by decide +kernel
theorem dX0_copyFrom_150 : decode cX0_copyFrom 150 = .ok (.aload_n 1, 1) := by decide +kernel
theorem dX0_copyFrom_151 : decode cX0_copyFrom 151 = .ok (.getfield 15, 3) := by decide +kernel
theorem dX0_copyFrom_154 : decode cX0_copyFrom 154 = .ok (.iload_n 2, 1) := by decide +kernel
theorem dX0_copyFrom_155 : decode cX0_copyFrom 155 = .ok (.iaload, 1) := by decide +kernel
theorem dX0_copyFrom_156 : decode cX0_copyFrom 156 = .ok (.iastore, 1) := by decide +kernel
theorem dX0_copyFrom_157 : decode cX0_copyFrom 157 = .ok (.aload_n 0, 1) := by decide +kernel
theorem dX0_copyFrom_158 : decode cX0_copyFrom 158 = .ok (.getfield 18, 3) := by decide +kernel
theorem dX0_copyFrom_161 : decode cX0_copyFrom 161 = .ok (.iload_n 2, 1) := by decide +kernel
theorem dX0_copyFrom_162 : decode cX0_copyFrom 162 = .ok (.aload_n 1, 1) := by decide +kernel
theorem dX0_copyFrom_163 : decode cX0_copyFrom 163 = .ok (.getfield 18, 3) := by decide +kernel
theorem dX0_copyFrom_166 : decode cX0_copyFrom 166 = .ok (.iload_n 2, 1) := by decide +kernel
theorem dX0_copyFrom_167 : decode cX0_copyFrom 167 = .ok (.iaload, 1) := by decide +kernel
theorem dX0_copyFrom_168 : decode cX0_copyFrom 168 = .ok (.iastore, 1) := by decide +kernel
theorem dX0_copyFrom_169 : decode cX0_copyFrom 169 = .ok (.aload_n 0, 1) := by decide +kernel
theorem dX0_copyFrom_170 : decode cX0_copyFrom 170 = .ok (.getfield 21, 3) := by decide +kernel
theorem dX0_copyFrom_173 : decode cX0_copyFrom 173 = .ok (.iload_n 2, 1) := by decide +kernel
theorem dX0_copyFrom_174 : decode cX0_copyFrom 174 = .ok (.aload_n 1, 1) := by decide +kernel
theorem dX0_copyFrom_175 : decode cX0_copyFrom 175 = .ok (.getfield 21, 3) := by decide +kernel
theorem dX0_copyFrom_178 : decode cX0_copyFrom 178 = .ok (.iload_n 2, 1) := by decide +kernel
theorem dX0_copyFrom_179 : decode cX0_copyFrom 179 = .ok (.iaload, 1) := by decide +kernel
theorem dX0_copyFrom_180 : decode cX0_copyFrom 180 = .ok (.iastore, 1) := by decide +kernel
theorem dX0_copyFrom_181 : decode cX0_copyFrom 181 = .ok (.iinc 2 1, 3) := by decide +kernel
theorem dX0_copyFrom_184 : decode cX0_copyFrom 184 = .ok (.goto (-45), 3) := by decide +kernel
theorem dX0_copyFrom_187 : decode cX0_copyFrom 187 = .ok (.return_, 1) := by decide +kernel
theorem dX0_allowsPeriod_0 : decode cX0_allowsPeriod 0 = .ok (.iload_n 1, 1) := by decide +kernel
theorem dX0_allowsPeriod_1 : decode cX0_allowsPeriod 1 = .ok (.iconst 2, 1) := by decide +kernel
theorem dX0_allowsPeriod_2 : decode cX0_allowsPeriod 2 = .ok (.if_icmp .lt 21, 3) := by decide +kernel
theorem dX0_allowsPeriod_5 : decode cX0_allowsPeriod 5 = .ok (.iload_n 1, 1) := by decide +kernel
theorem dX0_allowsPeriod_6 : decode cX0_allowsPeriod 6 = .ok (.bipush 99, 2) := by decide +kernel
theorem dX0_allowsPeriod_8 : decode cX0_allowsPeriod 8 = .ok (.if_icmp .gt 15, 3) := by decide +kernel
theorem dX0_allowsPeriod_11 : decode cX0_allowsPeriod 11 = .ok (.iload_n 1, 1) := by decide +kernel
theorem dX0_allowsPeriod_12 : decode cX0_allowsPeriod 12 = .ok (.aload_n 0, 1) := by decide +kernel
theorem dX0_allowsPeriod_13 : decode cX0_allowsPeriod 13 = .ok (.getfield 32, 3) := by decide +kernel
theorem dX0_allowsPeriod_16 : decode cX0_allowsPeriod 16 = .ok (.if_icmp .le 7, 3) := by decide +kernel
theorem dX0_allowsPeriod_19 : decode cX0_allowsPeriod 19 = .ok (.iconst 1, 1) := by decide +kernel
theorem dX0_allowsPeriod_20 : decode cX0_allowsPeriod 20 = .ok (.goto 4, 3) := by decide +kernel
theorem dX0_allowsPeriod_23 : decode cX0_allowsPeriod 23 = .ok (.iconst 0, 1) := by decide +kernel
theorem dX0_allowsPeriod_24 : decode cX0_allowsPeriod 24 = .ok (.ireturn, 1) := by decide +kernel
theorem dX0_allowsFirstWake_0 : decode cX0_allowsFirstWake 0 = .ok (.iload_n 1, 1) := by decide +kernel
theorem dX0_allowsFirstWake_1 : decode cX0_allowsFirstWake 1 = .ok (.ifCond .lt 15, 3) := by decide +kernel
theorem dX0_allowsFirstWake_4 : decode cX0_allowsFirstWake 4 = .ok (.iload_n 1, 1) := by decide +kernel
theorem dX0_allowsFirstWake_5 : decode cX0_allowsFirstWake 5 = .ok (.aload_n 0, 1) := by decide +kernel
theorem dX0_allowsFirstWake_6 : decode cX0_allowsFirstWake 6 = .ok (.getfield 28, 3) := by decide +kernel
theorem dX0_allowsFirstWake_9 : decode cX0_allowsFirstWake 9 = .ok (.if_icmp .ge 7, 3) := by decide +kernel
theorem dX0_allowsFirstWake_12 : decode cX0_allowsFirstWake 12 = .ok (.iconst 1, 1) := by decide +kernel
theorem dX0_allowsFirstWake_13 : decode cX0_allowsFirstWake 13 = .ok (.goto 4, 3) := by decide +kernel
theorem dX0_allowsFirstWake_16 : decode cX0_allowsFirstWake 16 = .ok (.iconst 0, 1) := by decide +kernel
theorem dX0_allowsFirstWake_17 : decode cX0_allowsFirstWake 17 = .ok (.ireturn, 1) := by decide +kernel
theorem dX0_isDueAt_0 : decode cX0_isDueAt 0 = .ok (.iload_n 1, 1) := by decide +kernel
theorem dX0_isDueAt_1 : decode cX0_isDueAt 1 = .ok (.aload_n 0, 1) := by decide +kernel
theorem dX0_isDueAt_2 : decode cX0_isDueAt 2 = .ok (.getfield 32, 3) := by decide +kernel
theorem dX0_isDueAt_5 : decode cX0_isDueAt 5 = .ok (.isub, 1) := by decide +kernel
theorem dX0_isDueAt_6 : decode cX0_isDueAt 6 = .ok (.istore_n 2, 1) := by decide +kernel
theorem dX0_isDueAt_7 : decode cX0_isDueAt 7 = .ok (.iload_n 2, 1) := by decide +kernel
theorem dX0_isDueAt_8 : decode cX0_isDueAt 8 = .ok (.ifCond .lt 23, 3) := by decide +kernel
theorem dX0_isDueAt_11 : decode cX0_isDueAt 11 = .ok (.aload_n 0, 1) := by decide +kernel
theorem dX0_isDueAt_12 : decode cX0_isDueAt 12 = .ok (.getfield 28, 3) := by decide +kernel
theorem dX0_isDueAt_15 : decode cX0_isDueAt 15 = .ok (.ifCond .le 16, 3) := by decide +kernel
theorem dX0_isDueAt_18 : decode cX0_isDueAt 18 = .ok (.iload_n 2, 1) := by decide +kernel
theorem dX0_isDueAt_19 : decode cX0_isDueAt 19 = .ok (.aload_n 0, 1) := by decide +kernel
theorem dX0_isDueAt_20 : decode cX0_isDueAt 20 = .ok (.getfield 28, 3) := by decide +kernel
theorem dX0_isDueAt_23 : decode cX0_isDueAt 23 = .ok (.irem, 1) := by decide +kernel
theorem dX0_isDueAt_24 : decode cX0_isDueAt 24 = .ok (.ifCond .ne 7, 3) := by decide +kernel
theorem dX0_isDueAt_27 : decode cX0_isDueAt 27 = .ok (.iconst 1, 1) := by decide +kernel
theorem dX0_isDueAt_28 : decode cX0_isDueAt 28 = .ok (.goto 4, 3) := by decide +kernel
theorem dX0_isDueAt_31 : decode cX0_isDueAt 31 = .ok (.iconst 0, 1) := by decide +kernel
theorem dX0_isDueAt_32 : decode cX0_isDueAt 32 = .ok (.ireturn, 1) := by decide +kernel
theorem dX0_slotsUntilDue_0 : decode cX0_slotsUntilDue 0 = .ok (.iconst 1, 1) := by decide +kernel
theorem dX0_slotsUntilDue_1 : decode cX0_slotsUntilDue 1 = .ok (.istore_n 2, 1) := by decide +kernel
theorem dX0_slotsUntilDue_2 : decode cX0_slotsUntilDue 2 = .ok (.iload_n 2, 1) := by decide +kernel
theorem dX0_slotsUntilDue_3 : decode cX0_slotsUntilDue 3 = .ok (.bipush 99, 2) := by decide +kernel
theorem dX0_slotsUntilDue_5 : decode cX0_slotsUntilDue 5 = .ok (.if_icmp .ge 19, 3) := by decide +kernel
theorem dX0_slotsUntilDue_8 : decode cX0_slotsUntilDue 8 = .ok (.aload_n 0, 1) := by decide +kernel
theorem dX0_slotsUntilDue_9 : decode cX0_slotsUntilDue 9 = .ok (.iload_n 1, 1) := by decide +kernel
theorem dX0_slotsUntilDue_10 : decode cX0_slotsUntilDue 10 = .ok (.iload_n 2, 1) := by decide +kernel
theorem dX0_slotsUntilDue_11 : decode cX0_slotsUntilDue 11 = .ok (.iadd, 1) := by decide +kernel
theorem dX0_slotsUntilDue_12 : decode cX0_slotsUntilDue 12 = .ok (.invokevirtual 72, 3) := by decide +kernel
theorem dX0_slotsUntilDue_15 : decode cX0_slotsUntilDue 15 = .ok (.ifCond .ne 9, 3) := by decide +kernel
theorem dX0_slotsUntilDue_18 : decode cX0_slotsUntilDue 18 = .ok (.iinc 2 1, 3) := by decide +kernel
theorem dX0_slotsUntilDue_21 : decode cX0_slotsUntilDue 21 = .ok (.goto (-19), 3) := by decide +kernel
theorem dX0_slotsUntilDue_24 : decode cX0_slotsUntilDue 24 = .ok (.iload_n 2, 1) := by decide +kernel
theorem dX0_slotsUntilDue_25 : decode cX0_slotsUntilDue 25 = .ok (.ireturn, 1) := by decide +kernel
theorem dX0_windowSize_0 : decode cX0_windowSize 0 = .ok (.bipush 32, 2) := by decide +kernel
theorem dX0_windowSize_2 : decode cX0_windowSize 2 = .ok (.iconst 2, 1) := by decide +kernel
theorem dX0_windowSize_3 : decode cX0_windowSize 3 = .ok (.aload_n 0, 1) := by decide +kernel
theorem dX0_windowSize_4 : decode cX0_windowSize 4 = .ok (.getfield 69, 3) := by decide +kernel
theorem dX0_windowSize_7 : decode cX0_windowSize 7 = .ok (.ishl, 1) := by decide +kernel
theorem dX0_windowSize_8 : decode cX0_windowSize 8 = .ok (.invokestatic 76, 3) := by decide +kernel
theorem dX0_windowSize_11 : decode cX0_windowSize 11 = .ok (.ireturn, 1) := by decide +kernel
theorem dX0_hasOpenEars_0 : decode cX0_hasOpenEars 0 = .ok (.aload_n 0, 1) := by decide +kernel
theorem dX0_hasOpenEars_1 : decode cX0_hasOpenEars 1 = .ok (.getfield 63, 3) := by decide +kernel
theorem dX0_hasOpenEars_4 : decode cX0_hasOpenEars 4 = .ok (.iconst 1, 1) := by decide +kernel
theorem dX0_hasOpenEars_5 : decode cX0_hasOpenEars 5 = .ok (.if_icmp .eq 11, 3) := by decide +kernel
theorem dX0_hasOpenEars_8 : decode cX0_hasOpenEars 8 = .ok (.aload_n 0, 1) := by decide +kernel
theorem dX0_hasOpenEars_9 : decode cX0_hasOpenEars 9 = .ok (.getfield 63, 3) := by decide +kernel
theorem dX0_hasOpenEars_12 : decode cX0_hasOpenEars 12 = .ok (.iconst 2, 1) := by decide +kernel
theorem dX0_hasOpenEars_13 : decode cX0_hasOpenEars 13 = .ok (.if_icmp .ne 7, 3) := by decide +kernel
theorem dX0_hasOpenEars_16 : decode cX0_hasOpenEars 16 = .ok (.iconst 1, 1) := by decide +kernel
theorem dX0_hasOpenEars_17 : decode cX0_hasOpenEars 17 = .ok (.goto 4, 3) := by decide +kernel
theorem dX0_hasOpenEars_20 : decode cX0_hasOpenEars 20 = .ok (.iconst 0, 1) := by decide +kernel
theorem dX0_hasOpenEars_21 : decode cX0_hasOpenEars 21 = .ok (.ireturn, 1) := by decide +kernel
theorem dX0_fallAsleep_0 : decode cX0_fallAsleep 0 = .ok (.aload_n 0, 1) := by decide +kernel
theorem dX0_fallAsleep_1 : decode cX0_fallAsleep 1 = .ok (.iconst 0, 1) := by decide +kernel
theorem dX0_fallAsleep_2 : decode cX0_fallAsleep 2 = .ok (.putfield 63, 3) := by decide +kernel
theorem dX0_fallAsleep_5 : decode cX0_fallAsleep 5 = .ok (.aload_n 0, 1) := by decide +kernel
theorem dX0_fallAsleep_6 : decode cX0_fallAsleep 6 = .ok (.iconst 0, 1) := by decide +kernel
theorem dX0_fallAsleep_7 : decode cX0_fallAsleep 7 = .ok (.putfield 66, 3) := by decide +kernel
theorem dX0_fallAsleep_10 : decode cX0_fallAsleep 10 = .ok (.aload_n 0, 1) := by decide +kernel
theorem dX0_fallAsleep_11 : decode cX0_fallAsleep 11 = .ok (.iconst 0, 1) := by decide +kernel
theorem dX0_fallAsleep_12 : decode cX0_fallAsleep 12 = .ok (.putfield 69, 3) := by decide +kernel
theorem dX0_fallAsleep_15 : decode cX0_fallAsleep 15 = .ok (.return_, 1) := by decide +kernel
theorem dX0_startListening_0 : decode cX0_startListening 0 = .ok (.aload_n 0, 1) := by decide +kernel
theorem dX0_startListening_1 : decode cX0_startListening 1 = .ok (.iconst 1, 1) := by decide +kernel
theorem dX0_startListening_2 : decode cX0_startListening 2 = .ok (.putfield 63, 3) := by decide +kernel
theorem dX0_startListening_5 : decode cX0_startListening 5 = .ok (.aload_n 0, 1) := by decide +kernel
theorem dX0_startListening_6 : decode cX0_startListening 6 = .ok (.aload_n 0, 1) := by decide +kernel
theorem dX0_startListening_7 : decode cX0_startListening 7 = .ok (.getfield 35, 3) := by decide +kernel
theorem dX0_startListening_10 : decode cX0_startListening 10 = .ok (.putfield 66, 3) := by decide +kernel
theorem dX0_startListening_13 : decode cX0_startListening 13 = .ok (.aload_n 0, 1) := by decide +kernel
theorem dX0_startListening_14 : decode cX0_startListening 14 = .ok (.iconst 0, 1) := by decide +kernel
theorem dX0_startListening_15 : decode cX0_startListening 15 = .ok (.putfield 44, 3) := by decide +kernel
theorem dX0_startListening_18 : decode cX0_startListening 18 = .ok (.return_, 1) := by decide +kernel
theorem dX0_startSending_0 : decode cX0_startSending 0 = .ok (.aload_n 0, 1) := by decide +kernel
theorem dX0_startSending_1 : decode cX0_startSending 1 = .ok (.iconst 3, 1) := by decide +kernel
theorem dX0_startSending_2 : decode cX0_startSending 2 = .ok (.putfield 63, 3) := by decide +kernel
theorem dX0_startSending_5 : decode cX0_startSending 5 = .ok (.aload_n 0, 1) := by decide +kernel
theorem dX0_startSending_6 : decode cX0_startSending 6 = .ok (.aload_n 0, 1) := by decide +kernel
theorem dX0_startSending_7 : decode cX0_startSending 7 = .ok (.getfield 38, 3) := by decide +kernel
theorem dX0_startSending_10 : decode cX0_startSending 10 = .ok (.putfield 66, 3) := by decide +kernel
theorem dX0_startSending_13 : decode cX0_startSending 13 = .ok (.iconst 0, 1) := by decide +kernel
theorem dX0_startSending_14 : decode cX0_startSending 14 = .ok (.istore_n 1, 1) := by decide +kernel
theorem dX0_startSending_15 : decode cX0_startSending 15 = .ok (.iload_n 1, 1) := by decide +kernel
theorem dX0_startSending_16 : decode cX0_startSending 16 = .ok (.bipush 8, 2) := by decide +kernel
theorem dX0_startSending_18 : decode cX0_startSending 18 = .ok (.if_icmp .ge 16, 3) := by decide +kernel
theorem dX0_startSending_21 : decode cX0_startSending 21 = .ok (.aload_n 0, 1) := by decide +kernel
theorem dX0_startSending_22 : decode cX0_startSending 22 = .ok (.getfield 18, 3) := by decide +kernel
theorem dX0_startSending_25 : decode cX0_startSending 25 = .ok (.iload_n 1, 1) := by decide +kernel
theorem dX0_startSending_26 : decode cX0_startSending 26 = .ok (.iconst 0, 1) := by decide +kernel
theorem dX0_startSending_27 : decode cX0_startSending 27 = .ok (.iastore, 1) := by decide +kernel
theorem dX0_startSending_28 : decode cX0_startSending 28 = .ok (.iinc 1 1, 3) := by decide +kernel
theorem dX0_startSending_31 : decode cX0_startSending 31 = .ok (.goto (-16), 3) := by decide +kernel
theorem dX0_startSending_34 : decode cX0_startSending 34 = .ok (.return_, 1) := by decide +kernel
theorem dX0_payForSlot_0 : decode cX0_payForSlot 0 = .ok (.iload_n 1, 1) := by decide +kernel
theorem dX0_payForSlot_1 : decode cX0_payForSlot 1 = .ok (.aload_n 0, 1) := by decide +kernel
theorem dX0_payForSlot_2 : decode cX0_payForSlot 2 = .ok (.getfield 41, 3) := by decide +kernel
theorem dX0_payForSlot_5 : decode cX0_payForSlot 5 = .ok (.invokestatic 76, 3) := by decide +kernel
theorem dX0_payForSlot_8 : decode cX0_payForSlot 8 = .ok (.istore_n 2, 1) := by decide +kernel
theorem dX0_payForSlot_9 : decode cX0_payForSlot 9 = .ok (.aload_n 0, 1) := by decide +kernel
theorem dX0_payForSlot_10 : decode cX0_payForSlot 10 = .ok (.dup, 1) := by decide +kernel
theorem dX0_payForSlot_11 : decode cX0_payForSlot 11 = .ok (.getfield 41, 3) := by decide +kernel
theorem dX0_payForSlot_14 : decode cX0_payForSlot 14 = .ok (.iload_n 2, 1) := by decide +kernel
theorem dX0_payForSlot_15 : decode cX0_payForSlot 15 = .ok (.isub, 1) := by decide +kernel
theorem dX0_payForSlot_16 : decode cX0_payForSlot 16 = .ok (.putfield 41, 3) := by decide +kernel
theorem dX0_payForSlot_19 : decode cX0_payForSlot 19 = .ok (.aload_n 0, 1) := by decide +kernel
theorem dX0_payForSlot_20 : decode cX0_payForSlot 20 = .ok (.dup, 1) := by decide +kernel
theorem dX0_payForSlot_21 : decode cX0_payForSlot 21 = .ok (.getfield 57, 3) := by decide +kernel
theorem dX0_payForSlot_24 : decode cX0_payForSlot 24 = .ok (.iload_n 2, 1) := by decide +kernel
theorem dX0_payForSlot_25 : decode cX0_payForSlot 25 = .ok (.iadd, 1) := by decide +kernel
theorem dX0_payForSlot_26 : decode cX0_payForSlot 26 = .ok (.putfield 57, 3) := by decide +kernel
theorem dX0_payForSlot_29 : decode cX0_payForSlot 29 = .ok (.aload_n 0, 1) := by decide +kernel
theorem dX0_payForSlot_30 : decode cX0_payForSlot 30 = .ok (.getfield 41, 3) := by decide +kernel
theorem dX0_payForSlot_33 : decode cX0_payForSlot 33 = .ok (.ifCond .ne 13, 3) := by decide +kernel
theorem dX0_payForSlot_36 : decode cX0_payForSlot 36 = .ok (.aload_n 0, 1) := by decide +kernel
theorem dX0_payForSlot_37 : decode cX0_payForSlot 37 = .ok (.iconst 4, 1) := by decide +kernel
theorem dX0_payForSlot_38 : decode cX0_payForSlot 38 = .ok (.putfield 63, 3) := by decide +kernel
theorem dX0_payForSlot_41 : decode cX0_payForSlot 41 = .ok (.aload_n 0, 1) := by decide +kernel
theorem dX0_payForSlot_42 : decode cX0_payForSlot 42 = .ok (.iconst 0, 1) := by decide +kernel
theorem dX0_payForSlot_43 : decode cX0_payForSlot 43 = .ok (.putfield 66, 3) := by decide +kernel
theorem dX0_payForSlot_46 : decode cX0_payForSlot 46 = .ok (.return_, 1) := by decide +kernel
theorem dX0_takeEnergy_0 : decode cX0_takeEnergy 0 = .ok (.aload_n 0, 1) := by decide +kernel
theorem dX0_takeEnergy_1 : decode cX0_takeEnergy 1 = .ok (.sipush 9999, 3) := by decide +kernel
theorem dX0_takeEnergy_4 : decode cX0_takeEnergy 4 = .ok (.aload_n 0, 1) := by decide +kernel
theorem dX0_takeEnergy_5 : decode cX0_takeEnergy 5 = .ok (.getfield 41, 3) := by decide +kernel
theorem dX0_takeEnergy_8 : decode cX0_takeEnergy 8 = .ok (.iload_n 1, 1) := by decide +kernel
theorem dX0_takeEnergy_9 : decode cX0_takeEnergy 9 = .ok (.iadd, 1) := by decide +kernel
theorem dX0_takeEnergy_10 : decode cX0_takeEnergy 10 = .ok (.invokestatic 76, 3) := by decide +kernel
theorem dX0_takeEnergy_13 : decode cX0_takeEnergy 13 = .ok (.putfield 41, 3) := by decide +kernel
theorem dX0_takeEnergy_16 : decode cX0_takeEnergy 16 = .ok (.aload_n 0, 1) := by decide +kernel
theorem dX0_takeEnergy_17 : decode cX0_takeEnergy 17 = .ok (.getfield 63, 3) := by decide +kernel
theorem dX0_takeEnergy_20 : decode cX0_takeEnergy 20 = .ok (.iconst 4, 1) := by decide +kernel
theorem dX0_takeEnergy_21 : decode cX0_takeEnergy 21 = .ok (.if_icmp .ne 7, 3) := by decide +kernel
theorem dX0_takeEnergy_24 : decode cX0_takeEnergy 24 = .ok (.aload_n 0, 1) := by decide +kernel
theorem dX0_takeEnergy_25 : decode cX0_takeEnergy 25 = .ok (.invokevirtual 60, 3) := by decide +kernel
theorem dX0_takeEnergy_28 : decode cX0_takeEnergy 28 = .ok (.return_, 1) := by decide +kernel
theorem dX1_init_0 : decode cX1_init 0 = .ok (.aload_n 0, 1) := by decide +kernel
theorem dX1_init_1 : decode cX1_init 1 = .ok (.invokespecial 3, 3) := by decide +kernel
theorem dX1_init_4 : decode cX1_init 4 = .ok (.aload_n 0, 1) := by decide +kernel
theorem dX1_init_5 : decode cX1_init 5 = .ok (.sipush 800, 3) := by decide +kernel
theorem dX1_init_8 : decode cX1_init 8 = .ok (.newarray .byte, 2) := by decide +kernel
theorem dX1_init_10 : decode cX1_init 10 = .ok (.putfield 11, 3) := by decide +kernel
theorem dX1_init_13 : decode cX1_init 13 = .ok (.return_, 1) := by decide +kernel
theorem dX2_init_0 : decode cX2_init 0 = .ok (.aload_n 0, 1) := by decide +kernel
theorem dX2_init_1 : decode cX2_init 1 = .ok (.invokespecial 5, 3) := by decide +kernel
theorem dX2_init_4 : decode cX2_init 4 = .ok (.aload_n 0, 1) := by decide +kernel
theorem dX2_init_5 : decode cX2_init 5 = .ok (.new 11, 3) := by decide +kernel
theorem dX2_init_8 : decode cX2_init 8 = .ok (.dup, 1) := by decide +kernel
theorem dX2_init_9 : decode cX2_init 9 = .ok (.invokespecial 13, 3) := by decide +kernel
theorem dX2_init_12 : decode cX2_init 12 = .ok (.putfield 14, 3) := by decide +kernel
theorem dX2_init_15 : decode cX2_init 15 = .ok (.aload_n 0, 1) := by decide +kernel
theorem dX2_init_16 : decode cX2_init 16 = .ok (.bipush 60, 2) := by decide +kernel
theorem dX2_init_18 : decode cX2_init 18 = .ok (.newarray .int, 2) := by decide +kernel
theorem dX2_init_20 : decode cX2_init 20 = .ok (.putfield 18, 3) := by decide +kernel
theorem dX2_init_23 : decode cX2_init 23 = .ok (.aload_n 0, 1) := by decide +kernel
theorem dX2_init_24 : decode cX2_init 24 = .ok (.bipush 60, 2) := by decide +kernel
theorem dX2_init_26 : decode cX2_init 26 = .ok (.newarray .int, 2) := by decide +kernel
theorem dX2_init_28 : decode cX2_init 28 = .ok (.putfield 22, 3) := by decide +kernel
theorem dX2_init_31 : decode cX2_init 31 = .ok (.aload_n 0, 1) := by decide +kernel
theorem dX2_init_32 : decode cX2_init 32 = .ok (.bipush 60, 2) := by decide +kernel
theorem dX2_init_34 : decode cX2_init 34 = .ok (.newarray .int, 2) := by decide +kernel
theorem dX2_init_36 : decode cX2_init 36 = .ok (.putfield 25, 3) := by decide +kernel
theorem dX2_init_39 : decode cX2_init 39 = .ok (.aload_n 0, 1) := by decide +kernel
theorem dX2_init_40 : decode cX2_init 40 = .ok (.iconst 2, 1) := by decide +kernel
theorem dX2_init_41 : decode cX2_init 41 = .ok (.newarray .int, 2) := by decide +kernel
theorem dX2_init_43 : decode cX2_init 43 = .ok (.putfield 28, 3) := by decide +kernel
theorem dX2_init_46 : decode cX2_init 46 = .ok (.aload_n 0, 1) := by decide +kernel
theorem dX2_init_47 : decode cX2_init 47 = .ok (.iconst 2, 1) := by decide +kernel
theorem dX2_init_48 : decode cX2_init 48 = .ok (.newarray .int, 2) := by decide +kernel
theorem dX2_init_50 : decode cX2_init 50 = .ok (.putfield 31, 3) := by decide +kernel
theorem dX2_init_53 : decode cX2_init 53 = .ok (.return_, 1) := by decide +kernel
theorem dX3_init_0 : decode cX3_init 0 = .ok (.aload_n 0, 1) := by decide +kernel
theorem dX3_init_1 : decode cX3_init 1 = .ok (.invokespecial 3, 3) := by decide +kernel
theorem dX3_init_4 : decode cX3_init 4 = .ok (.aload_n 0, 1) := by decide +kernel
theorem dX3_init_5 : decode cX3_init 5 = .ok (.new 9, 3) := by decide +kernel
theorem dX3_init_8 : decode cX3_init 8 = .ok (.dup, 1) := by decide +kernel
theorem dX3_init_9 : decode cX3_init 9 = .ok (.invokespecial 11, 3) := by decide +kernel
theorem dX3_init_12 : decode cX3_init 12 = .ok (.putfield 12, 3) := by decide +kernel
theorem dX3_init_15 : decode cX3_init 15 = .ok (.return_, 1) := by decide +kernel
theorem dX3_readAll_0 : decode cX3_readAll 0 = .ok (.aload_n 1, 1) := by decide +kernel
theorem dX3_readAll_1 : decode cX3_readAll 1 = .ok (.invokevirtual 18, 3) := by decide +kernel
theorem dX3_readAll_4 : decode cX3_readAll 4 = .ok (.aload_n 0, 1) := by decide +kernel
theorem dX3_readAll_5 : decode cX3_readAll 5 = .ok (.iconst 0, 1) := by decide +kernel
theorem dX3_readAll_6 : decode cX3_readAll 6 = .ok (.putfield 23, 3) := by decide +kernel
theorem dX3_readAll_9 : decode cX3_readAll 9 = .ok (.iconst 0, 1) := by decide +kernel
theorem dX3_readAll_10 : decode cX3_readAll 10 = .ok (.istore_n 2, 1) := by decide +kernel
theorem dX3_readAll_11 : decode cX3_readAll 11 = .ok (.iload_n 2, 1) := by decide +kernel
theorem dX3_readAll_12 : decode cX3_readAll 12 = .ok (.sipush 700, 3) := by decide +kernel
theorem dX3_readAll_15 : decode cX3_readAll 15 = .ok (.if_icmp .ge 41, 3) := by decide +kernel
theorem dX3_readAll_18 : decode cX3_readAll 18 = .ok (.aload_n 0, 1) := by decide +kernel
theorem dX3_readAll_19 : decode cX3_readAll 19 = .ok (.getfield 12, 3) := by decide +kernel
theorem dX3_readAll_22 : decode cX3_readAll 22 = .ok (.getfield 27, 3) := by decide +kernel
theorem dX3_readAll_25 : decode cX3_readAll 25 = .ok (.ifCond .eq 31, 3) := by decide +kernel
theorem dX3_readAll_28 : decode cX3_readAll 28 = .ok (.aload_n 0, 1) := by decide +kernel
theorem dX3_readAll_29 : decode cX3_readAll 29 = .ok (.aload_n 1, 1) := by decide +kernel
theorem dX3_readAll_30 : decode cX3_readAll 30 = .ok (.invokevirtual 30, 3) := by decide +kernel
theorem dX3_readAll_33 : decode cX3_readAll 33 = .ok (.ifCond .eq 15, 3) := by decide +kernel
theorem dX3_readAll_36 : decode cX3_readAll 36 = .ok (.aload_n 0, 1) := by decide +kernel
theorem dX3_readAll_37 : decode cX3_readAll 37 = .ok (.getfield 12, 3) := by decide +kernel
theorem dX3_readAll_40 : decode cX3_readAll 40 = .ok (.bipush 59, 2) := by decide +kernel
theorem dX3_readAll_42 : decode cX3_readAll 42 = .ok (.invokevirtual 34, 3) := by decide +kernel
theorem dX3_readAll_45 : decode cX3_readAll 45 = .ok (.ifCond .ne 5, 3) := by decide +kernel
theorem dX3_readAll_48 : decode cX3_readAll 48 = .ok (.iconst 0, 1) := by decide +kernel
theorem dX3_readAll_49 : decode cX3_readAll 49 = .ok (.ireturn, 1) := by decide +kernel
theorem dX3_readAll_50 : decode cX3_readAll 50 = .ok (.iinc 2 1, 3) := by decide +kernel
theorem dX3_readAll_53 : decode cX3_readAll 53 = .ok (.goto (-42), 3) := by decide +kernel
theorem dX3_readAll_56 : decode cX3_readAll 56 = .ok (.iconst 1, 1) := by decide +kernel
theorem dX3_readAll_57 : decode cX3_readAll 57 = .ok (.ireturn, 1) := by decide +kernel
theorem dX3_readStatement_0 : decode cX3_readStatement 0 = .ok (.aload_n 0, 1) := by decide +kernel
theorem dX3_readStatement_1 : decode cX3_readStatement 1 = .ok (.getfield 12, 3) := by decide +kernel
theorem dX3_readStatement_4 : decode cX3_readStatement 4 = .ok (.ldc 38, 2) := by decide +kernel
theorem dX3_readStatement_6 : decode cX3_readStatement 6 = .ok (.invokevirtual 40, 3) := by decide +kernel
theorem dX3_readStatement_9 : decode cX3_readStatement 9 = .ok (.ifCond .eq 25, 3) := by decide +kernel
theorem dX3_readStatement_12 : decode cX3_readStatement 12 = .ok (.aload_n 0, 1) := by decide +kernel
theorem dX3_readStatement_13 : decode cX3_readStatement 13 = .ok (.iconst 1, 1) := by decide +kernel
theorem dX3_readStatement_14 : decode cX3_readStatement 14 = .ok (.invokevirtual 44, 3) := by decide +kernel
theorem dX3_readStatement_17 : decode cX3_readStatement 17 = .ok (.ifCond .eq 15, 3) := by decide +kernel
theorem dX3_readStatement_20 : decode cX3_readStatement 20 = .ok (.aload_n 0, 1) := by decide +kernel
theorem dX3_readStatement_21 : decode cX3_readStatement 21 = .ok (.aload_n 1, 1) := by decide +kernel
theorem dX3_readStatement_22 : decode cX3_readStatement 22 = .ok (.invokevirtual 48, 3) := by decide +kernel
theorem dX3_readStatement_25 : decode cX3_readStatement 25 = .ok (.ifCond .eq 7, 3) := by decide +kernel
theorem dX3_readStatement_28 : decode cX3_readStatement 28 = .ok (.iconst 1, 1) := by decide +kernel
theorem dX3_readStatement_29 : decode cX3_readStatement 29 = .ok (.goto 4, 3) := by decide +kernel
theorem dX3_readStatement_32 : decode cX3_readStatement 32 = .ok (.iconst 0, 1) := by decide +kernel
theorem dX3_readStatement_33 : decode cX3_readStatement 33 = .ok (.ireturn, 1) := by decide +kernel
theorem dX3_readStatement_34 : decode cX3_readStatement 34 = .ok (.aload_n 0, 1) := by decide +kernel
theorem dX3_readStatement_35 : decode cX3_readStatement 35 = .ok (.getfield 12, 3) := by decide +kernel
theorem dX3_readStatement_38 : decode cX3_readStatement 38 = .ok (.ldc 51, 2) := by decide +kernel
theorem dX3_readStatement_40 : decode cX3_readStatement 40 = .ok (.invokevirtual 40, 3) := by decide +kernel
theorem dX3_readStatement_43 : decode cX3_readStatement 43 = .ok (.ifCond .eq 25, 3) := by decide +kernel
theorem dX3_readStatement_46 : decode cX3_readStatement 46 = .ok (.aload_n 0, 1) := by decide +kernel
theorem dX3_readStatement_47 : decode cX3_readStatement 47 = .ok (.iconst 2, 1) := by decide +kernel
theorem dX3_readStatement_48 : decode cX3_readStatement 48 = .ok (.invokevirtual 44, 3) := by decide +kernel
theorem dX3_readStatement_51 : decode cX3_readStatement 51 = .ok (.ifCond .eq 15, 3) := by decide +kernel
theorem dX3_readStatement_54 : decode cX3_readStatement 54 = .ok (.aload_n 0, 1) := by decide +kernel
theorem dX3_readStatement_55 : decode cX3_readStatement 55 = .ok (.aload_n 1, 1) := by decide +kernel
theorem dX3_readStatement_56 : decode cX3_readStatement 56 = .ok (.invokevirtual 53, 3) := by decide +kernel
theorem dX3_readStatement_59 : decode cX3_readStatement 59 = .ok (.ifCond .eq 7, 3) := by decide +kernel
theorem dX3_readStatement_62 : decode cX3_readStatement 62 = .ok (.iconst 1, 1) := by decide +kernel
theorem dX3_readStatement_63 : decode cX3_readStatement 63 = .ok (.goto 4, 3) := by decide +kernel
theorem dX3_readStatement_66 : decode cX3_readStatement 66 = .ok (.iconst 0, 1) := by decide +kernel
theorem dX3_readStatement_67 : decode cX3_readStatement 67 = .ok (.ireturn, 1) := by decide +kernel
theorem dX3_readStatement_68 : decode cX3_readStatement 68 = .ok (.aload_n 0, 1) := by decide +kernel
theorem dX3_readStatement_69 : decode cX3_readStatement 69 = .ok (.getfield 12, 3) := by decide +kernel
theorem dX3_readStatement_72 : decode cX3_readStatement 72 = .ok (.ldc 56, 2) := by decide +kernel
theorem dX3_readStatement_74 : decode cX3_readStatement 74 = .ok (.invokevirtual 40, 3) := by decide +kernel
theorem dX3_readStatement_77 : decode cX3_readStatement 77 = .ok (.ifCond .eq 25, 3) := by decide +kernel
theorem dX3_readStatement_80 : decode cX3_readStatement 80 = .ok (.aload_n 0, 1) := by decide +kernel
theorem dX3_readStatement_81 : decode cX3_readStatement 81 = .ok (.iconst 4, 1) := by decide +kernel
theorem dX3_readStatement_82 : decode cX3_readStatement 82 = .ok (.invokevirtual 44, 3) := by decide +kernel
theorem dX3_readStatement_85 : decode cX3_readStatement 85 = .ok (.ifCond .eq 15, 3) := by decide +kernel
theorem dX3_readStatement_88 : decode cX3_readStatement 88 = .ok (.aload_n 0, 1) := by decide +kernel
theorem dX3_readStatement_89 : decode cX3_readStatement 89 = .ok (.aload_n 1, 1) := by decide +kernel
theorem dX3_readStatement_90 : decode cX3_readStatement 90 = .ok (.invokevirtual 58, 3) := by decide +kernel
theorem dX3_readStatement_93 : decode cX3_readStatement 93 = .ok (.ifCond .eq 7, 3) := by decide +kernel
theorem dX3_readStatement_96 : decode cX3_readStatement 96 = .ok (.iconst 1, 1) := by decide +kernel
theorem dX3_readStatement_97 : decode cX3_readStatement 97 = .ok (.goto 4, 3) := by decide +kernel
theorem dX3_readStatement_100 : decode cX3_readStatement 100 = .ok (.iconst 0, 1) := by decide +kernel
theorem dX3_readStatement_101 : decode cX3_readStatement 101 = .ok (.ireturn, 1) := by decide +kernel
theorem dX3_readStatement_102 : decode cX3_readStatement 102 = .ok (.aload_n 0, 1) := by decide +kernel
theorem dX3_readStatement_103 : decode cX3_readStatement 103 = .ok (.getfield 12, 3) := by decide +kernel
theorem dX3_readStatement_106 : decode cX3_readStatement 106 = .ok (.ldc 61, 2) := by decide +kernel
theorem dX3_readStatement_108 : decode cX3_readStatement 108 = .ok (.invokevirtual 40, 3) := by decide +kernel
theorem dX3_readStatement_111 : decode cX3_readStatement 111 = .ok (.ifCond .eq 26, 3) := by decide +kernel
theorem dX3_readStatement_114 : decode cX3_readStatement 114 = .ok (.aload_n 0, 1) := by decide +kernel
theorem dX3_readStatement_115 : decode cX3_readStatement 115 = .ok (.bipush 8, 2) := by decide +kernel
theorem dX3_readStatement_117 : decode cX3_readStatement 117 = .ok (.invokevirtual 44, 3) := by decide +kernel
theorem dX3_readStatement_120 : decode cX3_readStatement 120 = .ok (.ifCond .eq 15, 3) := by decide +kernel
theorem dX3_readStatement_123 : decode cX3_readStatement 123 = .ok (.aload_n 0, 1) := by decide +kernel
theorem dX3_readStatement_124 : decode cX3_readStatement 124 = .ok (.aload_n 1, 1) := by decide +kernel
theorem dX3_readStatement_125 : decode cX3_readStatement 125 = .ok (.invokevirtual 63, 3) := by decide +kernel
theorem dX3_readStatement_128 : decode cX3_readStatement 128 = .ok (.ifCond .eq 7, 3) := by decide +kernel
theorem dX3_readStatement_131 : decode cX3_readStatement 131 = .ok (.iconst 1, 1) := by decide +kernel
theorem dX3_readStatement_132 : decode cX3_readStatement 132 = .ok (.goto 4, 3) := by decide +kernel
theorem dX3_readStatement_135 : decode cX3_readStatement 135 = .ok (.iconst 0, 1) := by decide +kernel
theorem dX3_readStatement_136 : decode cX3_readStatement 136 = .ok (.ireturn, 1) := by decide +kernel
theorem dX3_readStatement_137 : decode cX3_readStatement 137 = .ok (.aload_n 0, 1) := by decide +kernel
theorem dX3_readStatement_138 : decode cX3_readStatement 138 = .ok (.getfield 12, 3) := by decide +kernel
theorem dX3_readStatement_141 : decode cX3_readStatement 141 = .ok (.ldc 66, 2) := by decide +kernel
theorem dX3_readStatement_143 : decode cX3_readStatement 143 = .ok (.invokevirtual 40, 3) := by decide +kernel
theorem dX3_readStatement_146 : decode cX3_readStatement 146 = .ok (.ifCond .eq 9, 3) := by decide +kernel
theorem dX3_readStatement_149 : decode cX3_readStatement 149 = .ok (.aload_n 0, 1) := by decide +kernel
theorem dX3_readStatement_150 : decode cX3_readStatement 150 = .ok (.aload_n 1, 1) := by decide +kernel
theorem dX3_readStatement_151 : decode cX3_readStatement 151 = .ok (.invokevirtual 68, 3) := by decide +kernel
theorem dX3_readStatement_154 : decode cX3_readStatement 154 = .ok (.ireturn, 1) := by decide +kernel
theorem dX3_readStatement_155 : decode cX3_readStatement 155 = .ok (.aload_n 0, 1) := by decide +kernel
theorem dX3_readStatement_156 : decode cX3_readStatement 156 = .ok (.getfield 12, 3) := by decide +kernel
theorem dX3_readStatement_159 : decode cX3_readStatement 159 = .ok (.ldc 71, 2) := by decide +kernel
theorem dX3_readStatement_161 : decode cX3_readStatement 161 = .ok (.invokevirtual 40, 3) := by decide +kernel
theorem dX3_readStatement_164 : decode cX3_readStatement 164 = .ok (.ifCond .eq 9, 3) := by decide +kernel
theorem dX3_readStatement_167 : decode cX3_readStatement 167 = .ok (.aload_n 0, 1) := by decide +kernel
theorem dX3_readStatement_168 : decode cX3_readStatement 168 = .ok (.aload_n 1, 1) := by decide +kernel
theorem dX3_readStatement_169 : decode cX3_readStatement 169 = .ok (.invokevirtual 73, 3) := by decide +kernel
theorem dX3_readStatement_172 : decode cX3_readStatement 172 = .ok (.ireturn, 1) := by decide +kernel
theorem dX3_readStatement_173 : decode cX3_readStatement 173 = .ok (.aload_n 0, 1) := by decide +kernel
theorem dX3_readStatement_174 : decode cX3_readStatement 174 = .ok (.getfield 12, 3) := by decide +kernel
theorem dX3_readStatement_177 : decode cX3_readStatement 177 = .ok (.iconst 1, 1) := by decide +kernel
theorem dX3_readStatement_178 : decode cX3_readStatement 178 = .ok (.invokevirtual 76, 3) := by decide +kernel
theorem dX3_readStatement_181 : decode cX3_readStatement 181 = .ok (.ireturn, 1) := by decide +kernel
theorem dX3_tellOnce_0 : decode cX3_tellOnce 0 = .ok (.aload_n 0, 1) := by decide +kernel
theorem dX3_tellOnce_1 : decode cX3_tellOnce 1 = .ok (.getfield 23, 3) := by decide +kernel
theorem dX3_tellOnce_4 : decode cX3_tellOnce 4 = .ok (.iload_n 1, 1) := by decide +kernel
theorem dX3_tellOnce_5 : decode cX3_tellOnce 5 = .ok (.iand, 1) := by decide +kernel
theorem dX3_tellOnce_6 : decode cX3_tellOnce 6 = .ok (.ifCond .eq 12, 3) := by decide +kernel
theorem dX3_tellOnce_9 : decode cX3_tellOnce 9 = .ok (.aload_n 0, 1) := by decide +kernel
theorem dX3_tellOnce_10 : decode cX3_tellOnce 10 = .ok (.getfield 12, 3) := by decide +kernel
theorem dX3_tellOnce_13 : decode cX3_tellOnce 13 = .ok (.iconst 3, 1) := by decide +kernel
theorem dX3_tellOnce_14 : decode cX3_tellOnce 14 = .ok (.invokevirtual 76, 3) := by decide +kernel
theorem dX3_tellOnce_17 : decode cX3_tellOnce 17 = .ok (.ireturn, 1) := by decide +kernel
theorem dX3_tellOnce_18 : decode cX3_tellOnce 18 = .ok (.aload_n 0, 1) := by decide +kernel
theorem dX3_tellOnce_19 : decode cX3_tellOnce 19 = .ok (.dup, 1) := by decide +kernel
theorem dX3_tellOnce_20 : decode cX3_tellOnce 20 = .ok (.getfield 23, 3) := by decide +kernel
theorem dX3_tellOnce_23 : decode cX3_tellOnce 23 = .ok (.iload_n 1, 1) := by decide +kernel
theorem dX3_tellOnce_24 : decode cX3_tellOnce 24 = .ok (.ior, 1) := by decide +kernel
theorem dX3_tellOnce_25 : decode cX3_tellOnce 25 = .ok (.putfield 23, 3) := by decide +kernel
theorem dX3_tellOnce_28 : decode cX3_tellOnce 28 = .ok (.aload_n 0, 1) := by decide +kernel
theorem dX3_tellOnce_29 : decode cX3_tellOnce 29 = .ok (.getfield 12, 3) := by decide +kernel
theorem dX3_tellOnce_32 : decode cX3_tellOnce 32 = .ok (.invokevirtual 79, 3) := by decide +kernel
theorem dX3_tellOnce_35 : decode cX3_tellOnce 35 = .ok (.iconst 1, 1) := by decide +kernel
theorem dX3_tellOnce_36 : decode cX3_tellOnce 36 = .ok (.ireturn, 1) := by decide +kernel
theorem dX3_readCosts_0 : decode cX3_readCosts 0 = .ok (.iconst 0, 1) := by decide +kernel
theorem dX3_readCosts_1 : decode cX3_readCosts 1 = .ok (.istore_n 2, 1) := by decide +kernel
theorem dX3_readCosts_2 : decode cX3_readCosts 2 = .ok (.iload_n 2, 1) := by decide +kernel
theorem dX3_readCosts_3 : decode cX3_readCosts 3 = .ok (.iconst 4, 1) := by decide +kernel
theorem dX3_readCosts_4 : decode cX3_readCosts 4 = .ok (.if_icmp .ge 34, 3) := by decide +kernel
theorem dX3_readCosts_7 : decode cX3_readCosts 7 = .ok (.aload_n 0, 1) := by decide +kernel
theorem dX3_readCosts_8 : decode cX3_readCosts 8 = .ok (.getfield 12, 3) := by decide +kernel
theorem dX3_readCosts_11 : decode cX3_readCosts 11 = .ok (.iconst 0, 1) := by decide +kernel
theorem dX3_readCosts_12 : decode cX3_readCosts 12 = .ok (.bipush 99, 2) := by decide +kernel
theorem dX3_readCosts_14 : decode cX3_readCosts 14 = .ok (.invokevirtual 82, 3) := by decide +kernel
theorem dX3_readCosts_17 : decode cX3_readCosts 17 = .ok (.istore_n 3, 1) := by decide +kernel
theorem dX3_readCosts_18 : decode cX3_readCosts 18 = .ok (.iload_n 3, 1) := by decide +kernel
theorem dX3_readCosts_19 : decode cX3_readCosts 19 = .ok (.iconst (-1), 1) := by decide +kernel
theorem dX3_readCosts_20 : decode cX3_readCosts 20 = .ok (.if_icmp .ne 5, 3) := by decide +kernel
theorem dX3_readCosts_23 : decode cX3_readCosts 23 = .ok (.iconst 0, 1) := by decide +kernel
theorem dX3_readCosts_24 : decode cX3_readCosts 24 = .ok (.ireturn, 1) := by decide +kernel
theorem dX3_readCosts_25 : decode cX3_readCosts 25 = .ok (.aload_n 1, 1) := by decide +kernel
theorem dX3_readCosts_26 : decode cX3_readCosts 26 = .ok (.getfield 86, 3) := by decide +kernel
theorem dX3_readCosts_29 : decode cX3_readCosts 29 = .ok (.iload_n 2, 1) := by decide +kernel
theorem dX3_readCosts_30 : decode cX3_readCosts 30 = .ok (.iload_n 3, 1) := by decide +kernel
theorem dX3_readCosts_31 : decode cX3_readCosts 31 = .ok (.iastore, 1) := by decide +kernel
theorem dX3_readCosts_32 : decode cX3_readCosts 32 = .ok (.iinc 2 1, 3) := by decide +kernel
theorem dX3_readCosts_35 : decode cX3_readCosts 35 = .ok (.goto (-33), 3) := by decide +kernel
theorem dX3_readCosts_38 : decode cX3_readCosts 38 = .ok (.iconst 1, 1) := by decide +kernel
theorem dX3_readCosts_39 : decode cX3_readCosts 39 = .ok (.ireturn, 1) := by decide +kernel
theorem dX3_readSeed_0 : decode cX3_readSeed 0 = .ok (.aload_n 1, 1) := by decide +kernel
theorem dX3_readSeed_1 : decode cX3_readSeed 1 = .ok (.aload_n 0, 1) := by decide +kernel
theorem dX3_readSeed_2 : decode cX3_readSeed 2 = .ok (.getfield 12, 3) := by decide +kernel
theorem dX3_readSeed_5 : decode cX3_readSeed 5 = .ok (.iconst 0, 1) := by decide +kernel
theorem dX3_readSeed_6 : decode cX3_readSeed 6 = .ok (.sipush 999, 3) := by decide +kernel
theorem dX3_readSeed_9 : decode cX3_readSeed 9 = .ok (.invokevirtual 82, 3) := by decide +kernel
theorem dX3_readSeed_12 : decode cX3_readSeed 12 = .ok (.putfield 89, 3) := by decide +kernel
theorem dX3_readSeed_15 : decode cX3_readSeed 15 = .ok (.aload_n 1, 1) := by decide +kernel
theorem dX3_readSeed_16 : decode cX3_readSeed 16 = .ok (.getfield 89, 3) := by decide +kernel
theorem dX3_readSeed_19 : decode cX3_readSeed 19 = .ok (.iconst (-1), 1) := by decide +kernel
theorem dX3_readSeed_20 : decode cX3_readSeed 20 = .ok (.if_icmp .eq 7, 3) := by decide +kernel
theorem dX3_readSeed_23 : decode cX3_readSeed 23 = .ok (.iconst 1, 1) := by decide +kernel
theorem dX3_readSeed_24 : decode cX3_readSeed 24 = .ok (.goto 4, 3) := by decide +kernel
theorem dX3_readSeed_27 : decode cX3_readSeed 27 = .ok (.iconst 0, 1) := by decide +kernel
theorem dX3_readSeed_28 : decode cX3_readSeed 28 = .ok (.ireturn, 1) := by decide +kernel
theorem dX3_readTries_0 : decode cX3_readTries 0 = .ok (.aload_n 1, 1) := by decide +kernel
theorem dX3_readTries_1 : decode cX3_readTries 1 = .ok (.aload_n 0, 1) := by decide +kernel
theorem dX3_readTries_2 : decode cX3_readTries 2 = .ok (.getfield 12, 3) := by decide +kernel
theorem dX3_readTries_5 : decode cX3_readTries 5 = .ok (.iconst 1, 1) := by decide +kernel
theorem dX3_readTries_6 : decode cX3_readTries 6 = .ok (.bipush 9, 2) := by decide +kernel
theorem dX3_readTries_8 : decode cX3_readTries 8 = .ok (.invokevirtual 82, 3) := by decide +kernel
theorem dX3_readTries_11 : decode cX3_readTries 11 = .ok (.putfield 92, 3) := by decide +kernel
theorem dX3_readTries_14 : decode cX3_readTries 14 = .ok (.aload_n 1, 1) := by decide +kernel
theorem dX3_readTries_15 : decode cX3_readTries 15 = .ok (.getfield 92, 3) := by decide +kernel
theorem dX3_readTries_18 : decode cX3_readTries 18 = .ok (.iconst (-1), 1) := by decide +kernel
theorem dX3_readTries_19 : decode cX3_readTries 19 = .ok (.if_icmp .eq 7, 3) := by decide +kernel
theorem dX3_readTries_22 : decode cX3_readTries 22 = .ok (.iconst 1, 1) := by decide +kernel
theorem dX3_readTries_23 : decode cX3_readTries 23 = .ok (.goto 4, 3) := by decide +kernel
theorem dX3_readTries_26 : decode cX3_readTries 26 = .ok (.iconst 0, 1) := by decide +kernel
theorem dX3_readTries_27 : decode cX3_readTries 27 = .ok (.ireturn, 1) := by decide +kernel
theorem dX3_readMemory_0 : decode cX3_readMemory 0 = .ok (.aload_n 1, 1) := by decide +kernel
theorem dX3_readMemory_1 : decode cX3_readMemory 1 = .ok (.aload_n 0, 1) := by decide +kernel
theorem dX3_readMemory_2 : decode cX3_readMemory 2 = .ok (.getfield 12, 3) := by decide +kernel
theorem dX3_readMemory_5 : decode cX3_readMemory 5 = .ok (.iconst 1, 1) := by decide +kernel
theorem dX3_readMemory_6 : decode cX3_readMemory 6 = .ok (.sipush 999, 3) := by decide +kernel
theorem dX3_readMemory_9 : decode cX3_readMemory 9 = .ok (.invokevirtual 82, 3) := by decide +kernel
theorem dX3_readMemory_12 : decode cX3_readMemory 12 = .ok (.putfield 94, 3) := by decide +kernel
theorem dX3_readMemory_15 : decode cX3_readMemory 15 = .ok (.aload_n 1, 1) := by decide +kernel
theorem dX3_readMemory_16 : decode cX3_readMemory 16 = .ok (.getfield 94, 3) := by decide +kernel
theorem dX3_readMemory_19 : decode cX3_readMemory 19 = .ok (.iconst (-1), 1) := by decide +kernel
theorem dX3_readMemory_20 : decode cX3_readMemory 20 = .ok (.if_icmp .eq 7, 3) := by decide +kernel
theorem dX3_readMemory_23 : decode cX3_readMemory 23 = .ok (.iconst 1, 1) := by decide +kernel
theorem dX3_readMemory_24 : decode cX3_readMemory 24 = .ok (.goto 4, 3) := by decide +kernel
theorem dX3_readMemory_27 : decode cX3_readMemory 27 = .ok (.iconst 0, 1) := by decide +kernel
theorem dX3_readMemory_28 : decode cX3_readMemory 28 = .ok (.ireturn, 1) := by decide +kernel
theorem dX3_readBeacon_0 : decode cX3_readBeacon 0 = .ok (.aload_n 1, 1) := by decide +kernel
theorem dX3_readBeacon_1 : decode cX3_readBeacon 1 = .ok (.getfield 96, 3) := by decide +kernel
theorem dX3_readBeacon_4 : decode cX3_readBeacon 4 = .ok (.bipush 8, 2) := by decide +kernel
theorem dX3_readBeacon_6 : decode cX3_readBeacon 6 = .ok (.if_icmp .lt 12, 3) := by decide +kernel
theorem dX3_readBeacon_9 : decode cX3_readBeacon 9 = .ok (.aload_n 0, 1) := by decide +kernel
theorem dX3_readBeacon_10 : decode cX3_readBeacon 10 = .ok (.getfield 12, 3) := by decide +kernel
theorem dX3_readBeacon_13 : decode cX3_readBeacon 13 = .ok (.iconst 5, 1) := by decide +kernel
theorem dX3_readBeacon_14 : decode cX3_readBeacon 14 = .ok (.invokevirtual 76, 3) := by decide +kernel
theorem dX3_readBeacon_17 : decode cX3_readBeacon 17 = .ok (.ireturn, 1) := by decide +kernel
theorem dX3_readBeacon_18 : decode cX3_readBeacon 18 = .ok (.aload_n 1, 1) := by decide +kernel
theorem dX3_readBeacon_19 : decode cX3_readBeacon 19 = .ok (.getfield 99, 3) := by decide +kernel
theorem dX3_readBeacon_22 : decode cX3_readBeacon 22 = .ok (.aload_n 1, 1) := by decide +kernel
theorem dX3_readBeacon_23 : decode cX3_readBeacon 23 = .ok (.getfield 96, 3) := by decide +kernel
theorem dX3_readBeacon_26 : decode cX3_readBeacon 26 = .ok (.aaload, 1) := by decide +kernel
theorem dX3_readBeacon_27 : decode cX3_readBeacon 27 = .ok (.astore_n 2, 1) := by decide +kernel
theorem dX3_readBeacon_28 : decode cX3_readBeacon 28 = .ok (.aload_n 0, 1) := by decide +kernel
theorem dX3_readBeacon_29 : decode cX3_readBeacon 29 = .ok (.getfield 12, 3) := by decide +kernel
theorem dX3_readBeacon_32 : decode cX3_readBeacon 32 = .ok (.invokevirtual 79, 3) := by decide +kernel
theorem dX3_readBeacon_35 : decode cX3_readBeacon 35 = .ok (.aload_n 0, 1) := by decide +kernel
theorem dX3_readBeacon_36 : decode cX3_readBeacon 36 = .ok (.aload_n 1, 1) := by decide +kernel
theorem dX3_readBeacon_37 : decode cX3_readBeacon 37 = .ok (.aload_n 2, 1) := by decide +kernel
theorem dX3_readBeacon_38 : decode cX3_readBeacon 38 = .ok (.invokevirtual 103, 3) := by decide +kernel
theorem dX3_readBeacon_41 : decode cX3_readBeacon 41 = .ok (.ifCond .eq 15, 3) := by decide +kernel
theorem dX3_readBeacon_44 : decode cX3_readBeacon 44 = .ok (.aload_n 0, 1) := by decide +kernel
theorem dX3_readBeacon_45 : decode cX3_readBeacon 45 = .ok (.getfield 12, 3) := by decide +kernel
theorem dX3_readBeacon_48 : decode cX3_readBeacon 48 = .ok (.ldc 107, 2) := by decide +kernel
theorem dX3_readBeacon_50 : decode cX3_readBeacon 50 = .ok (.invokevirtual 109, 3) := by decide +kernel
theorem dX3_readBeacon_53 : decode cX3_readBeacon 53 = .ok (.ifCond .ne 5, 3) := by decide +kernel
theorem dX3_readBeacon_56 : decode cX3_readBeacon 56 = .ok (.iconst 0, 1) := by decide +kernel
theorem dX3_readBeacon_57 : decode cX3_readBeacon 57 = .ok (.ireturn, 1) := by decide +kernel
theorem dX3_readBeacon_58 : decode cX3_readBeacon 58 = .ok (.aload_n 0, 1) := by decide +kernel
theorem dX3_readBeacon_59 : decode cX3_readBeacon 59 = .ok (.getfield 12, 3) := by decide +kernel
theorem dX3_readBeacon_62 : decode cX3_readBeacon 62 = .ok (.iconst 2, 1) := by decide +kernel
theorem dX3_readBeacon_63 : decode cX3_readBeacon 63 = .ok (.bipush 99, 2) := by decide +kernel
theorem dX3_readBeacon_65 : decode cX3_readBeacon 65 = .ok (.invokevirtual 82, 3) := by decide +kernel
theorem dX3_readBeacon_68 : decode cX3_readBeacon 68 = .ok (.istore_n 3, 1) := by decide +kernel
theorem dX3_readBeacon_69 : decode cX3_readBeacon 69 = .ok (.iload_n 3, 1) := by decide +kernel
theorem dX3_readBeacon_70 : decode cX3_readBeacon 70 = .ok (.iconst (-1), 1) := by decide +kernel
theorem dX3_readBeacon_71 : decode cX3_readBeacon 71 = .ok (.if_icmp .ne 7, 3) := by decide +kernel
theorem dX3_readBeacon_74 : decode cX3_readBeacon 74 = .ok (.iconst (-1), 1) := by decide +kernel
theorem dX3_readBeacon_75 : decode cX3_readBeacon 75 = .ok (.goto 14, 3) := by decide +kernel
theorem dX3_readBeacon_78 : decode cX3_readBeacon 78 = .ok (.aload_n 0, 1) := by decide +kernel
theorem dX3_readBeacon_79 : decode cX3_readBeacon 79 = .ok (.ldc 112, 2) := by decide +kernel
theorem dX3_readBeacon_81 : decode cX3_readBeacon 81 = .ok (.iconst 0, 1) := by decide +kernel
theorem dX3_readBeacon_82 : decode cX3_readBeacon 82 = .ok (.iload_n 3, 1) := by decide +kernel
theorem dX3_readBeacon_83 : decode cX3_readBeacon 83 = .ok (.iconst 1, 1) := by decide +kernel
theorem dX3_readBeacon_84 : decode cX3_readBeacon 84 = .ok (.isub, 1) := by decide +kernel
theorem dX3_readBeacon_85 : decode cX3_readBeacon 85 = .ok (.iconst 0, 1) := by decide +kernel
theorem dX3_readBeacon_86 : decode cX3_readBeacon 86 = .ok (.invokevirtual 114, 3) := by decide +kernel
theorem dX3_readBeacon_89 : decode cX3_readBeacon 89 = .ok (.istore 4, 2) := by decide +kernel
theorem dX3_readBeacon_91 : decode cX3_readBeacon 91 = .ok (.iload 4, 2) := by decide +kernel
theorem dX3_readBeacon_93 : decode cX3_readBeacon 93 = .ok (.iconst (-1), 1) := by decide +kernel
theorem dX3_readBeacon_94 : decode cX3_readBeacon 94 = .ok (.if_icmp .ne 7, 3) := by decide +kernel
theorem dX3_readBeacon_97 : decode cX3_readBeacon 97 = .ok (.iconst (-1), 1) := by decide +kernel
theorem dX3_readBeacon_98 : decode cX3_readBeacon 98 = .ok (.goto 13, 3) := by decide +kernel
theorem dX3_readBeacon_101 : decode cX3_readBeacon 101 = .ok (.aload_n 0, 1) := by decide +kernel
theorem dX3_readBeacon_102 : decode cX3_readBeacon 102 = .ok (.ldc 118, 2) := by decide +kernel
theorem dX3_readBeacon_104 : decode cX3_readBeacon 104 = .ok (.iconst 1, 1) := by decide +kernel
theorem dX3_readBeacon_105 : decode cX3_readBeacon 105 = .ok (.bipush 9, 2) := by decide +kernel
theorem dX3_readBeacon_107 : decode cX3_readBeacon 107 = .ok (.iconst 2, 1) := by decide +kernel
theorem dX3_readBeacon_108 : decode cX3_readBeacon 108 = .ok (.invokevirtual 114, 3) := by decide +kernel
theorem dX3_readBeacon_111 : decode cX3_readBeacon 111 = .ok (.istore 5, 2) := by decide +kernel
theorem dX3_readBeacon_113 : decode cX3_readBeacon 113 = .ok (.iload 5, 2) := by decide +kernel
theorem dX3_readBeacon_115 : decode cX3_readBeacon 115 = .ok (.iconst (-1), 1) := by decide +kernel
theorem dX3_readBeacon_116 : decode cX3_readBeacon 116 = .ok (.if_icmp .ne 7, 3) := by decide +kernel
theorem dX3_readBeacon_119 : decode cX3_readBeacon 119 = .ok (.iconst (-1), 1) := by decide +kernel
theorem dX3_readBeacon_120 : decode cX3_readBeacon 120 = .ok (.goto 13, 3) := by decide +kernel
theorem dX3_readBeacon_123 : decode cX3_readBeacon 123 = .ok (.aload_n 0, 1) := by decide +kernel
theorem dX3_readBeacon_124 : decode cX3_readBeacon 124 = .ok (.ldc 120, 2) := by decide +kernel
theorem dX3_readBeacon_126 : decode cX3_readBeacon 126 = .ok (.iconst 1, 1) := by decide +kernel
theorem dX3_readBeacon_127 : decode cX3_readBeacon 127 = .ok (.bipush 9, 2) := by decide +kernel
theorem dX3_readBeacon_129 : decode cX3_readBeacon 129 = .ok (.iconst 2, 1) := by decide +kernel
theorem dX3_readBeacon_130 : decode cX3_readBeacon 130 = .ok (.invokevirtual 114, 3) := by decide +kernel
theorem dX3_readBeacon_133 : decode cX3_readBeacon 133 = .ok (.istore 6, 2) := by decide +kernel
theorem dX3_readBeacon_135 : decode cX3_readBeacon 135 = .ok (.iload 6, 2) := by decide +kernel
theorem dX3_readBeacon_137 : decode cX3_readBeacon 137 = .ok (.iconst (-1), 1) := by decide +kernel
theorem dX3_readBeacon_138 : decode cX3_readBeacon 138 = .ok (.if_icmp .ne 7, 3) := by decide +kernel
theorem dX3_readBeacon_141 : decode cX3_readBeacon 141 = .ok (.iconst (-1), 1) := by decide +kernel
theorem dX3_readBeacon_142 : decode cX3_readBeacon 142 = .ok (.goto 16, 3) := by decide +kernel
theorem dX3_readBeacon_145 : decode cX3_readBeacon 145 = .ok (.aload_n 0, 1) := by decide +kernel
theorem dX3_readBeacon_146 : decode cX3_readBeacon 146 = .ok (.ldc 122, 2) := by decide +kernel
theorem dX3_readBeacon_148 : decode cX3_readBeacon 148 = .ok (.iconst 1, 1) := by decide +kernel
theorem dX3_readBeacon_149 : decode cX3_readBeacon 149 = .ok (.sipush 999, 3) := by decide +kernel
theorem dX3_readBeacon_152 : decode cX3_readBeacon 152 = .ok (.sipush 999, 3) := by decide +kernel
theorem dX3_readBeacon_155 : decode cX3_readBeacon 155 = .ok (.invokevirtual 114, 3) := by decide +kernel
theorem dX3_readBeacon_158 : decode cX3_readBeacon 158 = .ok (.istore 7, 2) := by decide +kernel
theorem dX3_readBeacon_160 : decode cX3_readBeacon 160 = .ok (.iload 7, 2) := by decide +kernel
theorem dX3_readBeacon_162 : decode cX3_readBeacon 162 = .ok (.iconst (-1), 1) := by decide +kernel
theorem dX3_readBeacon_163 : decode cX3_readBeacon 163 = .ok (.if_icmp .ne 5, 3) := by decide +kernel
theorem dX3_readBeacon_166 : decode cX3_readBeacon 166 = .ok (.iconst 0, 1) := by decide +kernel
theorem dX3_readBeacon_167 : decode cX3_readBeacon 167 = .ok (.ireturn, 1) := by decide +kernel
theorem dX3_readBeacon_168 : decode cX3_readBeacon 168 = .ok (.aload_n 2, 1) := by decide +kernel
theorem dX3_readBeacon_169 : decode cX3_readBeacon 169 = .ok (.iload_n 3, 1) := by decide +kernel
theorem dX3_readBeacon_170 : decode cX3_readBeacon 170 = .ok (.putfield 124, 3) := by decide +kernel
theorem dX3_readBeacon_173 : decode cX3_readBeacon 173 = .ok (.aload_n 2, 1) := by decide +kernel
theorem dX3_readBeacon_174 : decode cX3_readBeacon 174 = .ok (.iload 4, 2) := by decide +kernel
theorem dX3_readBeacon_176 : decode cX3_readBeacon 176 = .ok (.putfield 129, 3) := by decide +kernel
theorem dX3_readBeacon_179 : decode cX3_readBeacon 179 = .ok (.aload_n 2, 1) := by decide +kernel
theorem dX3_readBeacon_180 : decode cX3_readBeacon 180 = .ok (.iload 5, 2) := by decide +kernel
theorem dX3_readBeacon_182 : decode cX3_readBeacon 182 = .ok (.putfield 132, 3) := by decide +kernel
theorem dX3_readBeacon_185 : decode cX3_readBeacon 185 = .ok (.aload_n 2, 1) := by decide +kernel
theorem dX3_readBeacon_186 : decode cX3_readBeacon 186 = .ok (.iload 6, 2) := by decide +kernel
theorem dX3_readBeacon_188 : decode cX3_readBeacon 188 = .ok (.putfield 135, 3) := by decide +kernel
theorem dX3_readBeacon_191 : decode cX3_readBeacon 191 = .ok (.aload_n 2, 1) := by decide +kernel
theorem dX3_readBeacon_192 : decode cX3_readBeacon 192 = .ok (.iload 7, 2) := by decide +kernel
theorem dX3_readBeacon_194 : decode cX3_readBeacon 194 = .ok (.putfield 138, 3) := by decide +kernel
theorem dX3_readBeacon_197 : decode cX3_readBeacon 197 = .ok (.aload_n 1, 1) := by decide +kernel
theorem dX3_readBeacon_198 : decode cX3_readBeacon 198 = .ok (.dup, 1) := by decide +kernel
theorem dX3_readBeacon_199 : decode cX3_readBeacon 199 = .ok (.getfield 96, 3) := by decide +kernel
theorem dX3_readBeacon_202 : decode cX3_readBeacon 202 = .ok (.iconst 1, 1) := by decide +kernel
theorem dX3_readBeacon_203 : decode cX3_readBeacon 203 = .ok (.iadd, 1) := by decide +kernel
theorem dX3_readBeacon_204 : decode cX3_readBeacon 204 = .ok (.putfield 96, 3) := by decide +kernel
theorem dX3_readBeacon_207 : decode cX3_readBeacon 207 = .ok (.iconst 1, 1) := by decide +kernel
theorem dX3_readBeacon_208 : decode cX3_readBeacon 208 = .ok (.ireturn, 1) := by decide +kernel
theorem dX3_takeNewName_0 : decode cX3_takeNewName 0 = .ok (.aload_n 0, 1) := by decide +kernel
theorem dX3_takeNewName_1 : decode cX3_takeNewName 1 = .ok (.getfield 12, 3) := by decide +kernel
theorem dX3_takeNewName_4 : decode cX3_takeNewName 4 = .ok (.getfield 27, 3) := by decide +kernel
theorem dX3_takeNewName_7 : decode cX3_takeNewName 7 = .ok (.iconst 1, 1) := by decide +kernel
theorem dX3_takeNewName_8 : decode cX3_takeNewName 8 = .ok (.if_icmp .eq 12, 3) := by decide +kernel
theorem dX3_takeNewName_11 : decode cX3_takeNewName 11 = .ok (.aload_n 0, 1) := by decide +kernel
theorem dX3_takeNewName_12 : decode cX3_takeNewName 12 = .ok (.getfield 12, 3) := by decide +kernel
theorem dX3_takeNewName_15 : decode cX3_takeNewName 15 = .ok (.iconst 1, 1) := by decide +kernel
theorem dX3_takeNewName_16 : decode cX3_takeNewName 16 = .ok (.invokevirtual 76, 3) := by decide +kernel
theorem dX3_takeNewName_19 : decode cX3_takeNewName 19 = .ok (.ireturn, 1) := by decide +kernel
theorem dX3_takeNewName_20 : decode cX3_takeNewName 20 = .ok (.aload_n 1, 1) := by decide +kernel
theorem dX3_takeNewName_21 : decode cX3_takeNewName 21 = .ok (.aload_n 0, 1) := by decide +kernel
theorem dX3_takeNewName_22 : decode cX3_takeNewName 22 = .ok (.getfield 12, 3) := by decide +kernel
theorem dX3_takeNewName_25 : decode cX3_takeNewName 25 = .ok (.getfield 140, 3) := by decide +kernel
theorem dX3_takeNewName_28 : decode cX3_takeNewName 28 = .ok (.invokevirtual 144, 3) := by decide +kernel
theorem dX3_takeNewName_31 : decode cX3_takeNewName 31 = .ok (.iconst (-1), 1) := by decide +kernel
theorem dX3_takeNewName_32 : decode cX3_takeNewName 32 = .ok (.if_icmp .eq 12, 3) := by decide +kernel
theorem dX3_takeNewName_35 : decode cX3_takeNewName 35 = .ok (.aload_n 0, 1) := by decide +kernel
theorem dX3_takeNewName_36 : decode cX3_takeNewName 36 = .ok (.getfield 12, 3) := by decide +kernel
theorem dX3_takeNewName_39 : decode cX3_takeNewName 39 = .ok (.iconst 3, 1) := by decide +kernel
theorem dX3_takeNewName_40 : decode cX3_takeNewName 40 = .ok (.invokevirtual 76, 3) := by decide +kernel
theorem dX3_takeNewName_43 : decode cX3_takeNewName 43 = .ok (.ireturn, 1) := by decide +kernel
theorem dX3_takeNewName_44 : decode cX3_takeNewName 44 = .ok (.aload_n 2, 1) := by decide +kernel
theorem dX3_takeNewName_45 : decode cX3_takeNewName 45 = .ok (.aload_n 0, 1) := by decide +kernel
theorem dX3_takeNewName_46 : decode cX3_takeNewName 46 = .ok (.getfield 12, 3) := by decide +kernel
theorem dX3_takeNewName_49 : decode cX3_takeNewName 49 = .ok (.getfield 140, 3) := by decide +kernel
theorem dX3_takeNewName_52 : decode cX3_takeNewName 52 = .ok (.invokevirtual 148, 3) := by decide +kernel
theorem dX3_takeNewName_55 : decode cX3_takeNewName 55 = .ok (.aload_n 0, 1) := by decide +kernel
theorem dX3_takeNewName_56 : decode cX3_takeNewName 56 = .ok (.getfield 12, 3) := by decide +kernel
theorem dX3_takeNewName_59 : decode cX3_takeNewName 59 = .ok (.invokevirtual 79, 3) := by decide +kernel
theorem dX3_takeNewName_62 : decode cX3_takeNewName 62 = .ok (.iconst 1, 1) := by decide +kernel
theorem dX3_takeNewName_63 : decode cX3_takeNewName 63 = .ok (.ireturn, 1) := by decide +kernel
theorem dX3_readPart_0 : decode cX3_readPart 0 = .ok (.aload_n 0, 1) := by decide +kernel
theorem dX3_readPart_1 : decode cX3_readPart 1 = .ok (.getfield 12, 3) := by decide +kernel
theorem dX3_readPart_4 : decode cX3_readPart 4 = .ok (.aload_n 1, 1) := by decide +kernel
theorem dX3_readPart_5 : decode cX3_readPart 5 = .ok (.invokevirtual 40, 3) := by decide +kernel
theorem dX3_readPart_8 : decode cX3_readPart 8 = .ok (.ifCond .ne 6, 3) := by decide +kernel
theorem dX3_readPart_11 : decode cX3_readPart 11 = .ok (.iload 4, 2) := by decide +kernel
theorem dX3_readPart_13 : decode cX3_readPart 13 = .ok (.ireturn, 1) := by decide +kernel
theorem dX3_readPart_14 : decode cX3_readPart 14 = .ok (.aload_n 0, 1) := by decide +kernel
theorem dX3_readPart_15 : decode cX3_readPart 15 = .ok (.getfield 12, 3) := by decide +kernel
theorem dX3_readPart_18 : decode cX3_readPart 18 = .ok (.invokevirtual 79, 3) := by decide +kernel
theorem dX3_readPart_21 : decode cX3_readPart 21 = .ok (.aload_n 0, 1) := by decide +kernel
theorem dX3_readPart_22 : decode cX3_readPart 22 = .ok (.getfield 12, 3) := by decide +kernel
theorem dX3_readPart_25 : decode cX3_readPart 25 = .ok (.iload_n 2, 1) := by decide +kernel
theorem dX3_readPart_26 : decode cX3_readPart 26 = .ok (.iload_n 3, 1) := by decide +kernel
theorem dX3_readPart_27 : decode cX3_readPart 27 = .ok (.invokevirtual 82, 3) := by decide +kernel
theorem dX3_readPart_30 : decode cX3_readPart 30 = .ok (.ireturn, 1) := by decide +kernel
theorem dX3_readNear_0 : decode cX3_readNear 0 = .ok (.aload_n 0, 1) := by decide +kernel
theorem dX3_readNear_1 : decode cX3_readNear 1 = .ok (.getfield 12, 3) := by decide +kernel
theorem dX3_readNear_4 : decode cX3_readNear 4 = .ok (.invokevirtual 79, 3) := by decide +kernel
theorem dX3_readNear_7 : decode cX3_readNear 7 = .ok (.aload_n 0, 1) := by decide +kernel
theorem dX3_readNear_8 : decode cX3_readNear 8 = .ok (.getfield 12, 3) := by decide +kernel
theorem dX3_readNear_11 : decode cX3_readNear 11 = .ok (.aload_n 1, 1) := by decide +kernel
theorem dX3_readNear_12 : decode cX3_readNear 12 = .ok (.invokevirtual 152, 3) := by decide +kernel
theorem dX3_readNear_15 : decode cX3_readNear 15 = .ok (.istore_n 2, 1) := by decide +kernel
theorem dX3_readNear_16 : decode cX3_readNear 16 = .ok (.iload_n 2, 1) := by decide +kernel
theorem dX3_readNear_17 : decode cX3_readNear 17 = .ok (.iconst (-1), 1) := by decide +kernel
theorem dX3_readNear_18 : decode cX3_readNear 18 = .ok (.if_icmp .ne 5, 3) := by decide +kernel
theorem dX3_readNear_21 : decode cX3_readNear 21 = .ok (.iconst 0, 1) := by decide +kernel
theorem dX3_readNear_22 : decode cX3_readNear 22 = .ok (.ireturn, 1) := by decide +kernel
theorem dX3_readNear_23 : decode cX3_readNear 23 = .ok (.aload_n 0, 1) := by decide +kernel
theorem dX3_readNear_24 : decode cX3_readNear 24 = .ok (.getfield 12, 3) := by decide +kernel
theorem dX3_readNear_27 : decode cX3_readNear 27 = .ok (.invokevirtual 79, 3) := by decide +kernel
theorem dX3_readNear_30 : decode cX3_readNear 30 = .ok (.aload_n 0, 1) := by decide +kernel
theorem dX3_readNear_31 : decode cX3_readNear 31 = .ok (.getfield 12, 3) := by decide +kernel
theorem dX3_readNear_34 : decode cX3_readNear 34 = .ok (.aload_n 1, 1) := by decide +kernel
theorem dX3_readNear_35 : decode cX3_readNear 35 = .ok (.invokevirtual 152, 3) := by decide +kernel
theorem dX3_readNear_38 : decode cX3_readNear 38 = .ok (.istore_n 3, 1) := by decide +kernel
theorem dX3_readNear_39 : decode cX3_readNear 39 = .ok (.iload_n 3, 1) := by decide +kernel
theorem dX3_readNear_40 : decode cX3_readNear 40 = .ok (.iconst (-1), 1) := by decide +kernel
theorem dX3_readNear_41 : decode cX3_readNear 41 = .ok (.if_icmp .ne 5, 3) := by decide +kernel
theorem dX3_readNear_44 : decode cX3_readNear 44 = .ok (.iconst 0, 1) := by decide +kernel
theorem dX3_readNear_45 : decode cX3_readNear 45 = .ok (.ireturn, 1) := by decide +kernel
theorem dX3_readNear_46 : decode cX3_readNear 46 = .ok (.iload_n 3, 1) := by decide +kernel
theorem dX3_readNear_47 : decode cX3_readNear 47 = .ok (.iload_n 2, 1) := by decide +kernel
theorem dX3_readNear_48 : decode cX3_readNear 48 = .ok (.if_icmp .eq 19, 3) := by decide +kernel
theorem dX3_readNear_51 : decode cX3_readNear 51 = .ok (.aload_n 1, 1) := by decide +kernel
theorem dX3_readNear_52 : decode cX3_readNear 52 = .ok (.getfield 99, 3) := by decide +kernel
theorem dX3_readNear_55 : decode cX3_readNear 55 = .ok (.iload_n 2, 1) := by decide +kernel
theorem dX3_readNear_56 : decode cX3_readNear 56 = .ok (.aaload, 1) := by decide +kernel
theorem dX3_readNear_57 : decode cX3_readNear 57 = .ok (.getfield 156, 3) := by decide +kernel
theorem dX3_readNear_60 : decode cX3_readNear 60 = .ok (.iload_n 3, 1) := by decide +kernel
theorem dX3_readNear_61 : decode cX3_readNear 61 = .ok (.invokestatic 158, 3) := by decide +kernel
theorem dX3_readNear_64 : decode cX3_readNear 64 = .ok (.ifCond .eq 12, 3) := by decide +kernel
theorem dX3_readNear_67 : decode cX3_readNear 67 = .ok (.aload_n 0, 1) := by decide +kernel
theorem dX3_readNear_68 : decode cX3_readNear 68 = .ok (.getfield 12, 3) := by decide +kernel
theorem dX3_readNear_71 : decode cX3_readNear 71 = .ok (.iconst 3, 1) := by decide +kernel
theorem dX3_readNear_72 : decode cX3_readNear 72 = .ok (.invokevirtual 76, 3) := by decide +kernel
theorem dX3_readNear_75 : decode cX3_readNear 75 = .ok (.ireturn, 1) := by decide +kernel
theorem dX3_readNear_76 : decode cX3_readNear 76 = .ok (.aload_n 1, 1) := by decide +kernel
theorem dX3_readNear_77 : decode cX3_readNear 77 = .ok (.iload_n 2, 1) := by decide +kernel
theorem dX3_readNear_78 : decode cX3_readNear 78 = .ok (.iload_n 3, 1) := by decide +kernel
theorem dX3_readNear_79 : decode cX3_readNear 79 = .ok (.invokevirtual 162, 3) := by decide +kernel
theorem dX3_readNear_82 : decode cX3_readNear 82 = .ok (.aload_n 0, 1) := by decide +kernel
theorem dX3_readNear_83 : decode cX3_readNear 83 = .ok (.getfield 12, 3) := by decide +kernel
theorem dX3_readNear_86 : decode cX3_readNear 86 = .ok (.invokevirtual 79, 3) := by decide +kernel
theorem dX3_readNear_89 : decode cX3_readNear 89 = .ok (.iconst 1, 1) := by decide +kernel
theorem dX3_readNear_90 : decode cX3_readNear 90 = .ok (.ireturn, 1) := by decide +kernel
theorem dX4_init_0 : decode cX4_init 0 = .ok (.aload_n 0, 1) := by decide +kernel
theorem dX4_init_1 : decode cX4_init 1 = .ok (.invokespecial 3, 3) := by decide +kernel
theorem dX4_init_4 : decode cX4_init 4 = .ok (.aload_n 0, 1) := by decide +kernel
theorem dX4_init_5 : decode cX4_init 5 = .ok (.sipush 701, 3) := by decide +kernel
theorem dX4_init_8 : decode cX4_init 8 = .ok (.newarray .int, 2) := by decide +kernel
theorem dX4_init_10 : decode cX4_init 10 = .ok (.putfield 9, 3) := by decide +kernel
theorem dX4_init_13 : decode cX4_init 13 = .ok (.aload_n 0, 1) := by decide +kernel
theorem dX4_init_14 : decode cX4_init 14 = .ok (.sipush 701, 3) := by decide +kernel
theorem dX4_init_17 : decode cX4_init 17 = .ok (.newarray .int, 2) := by decide +kernel
theorem dX4_init_19 : decode cX4_init 19 = .ok (.putfield 15, 3) := by decide +kernel
theorem dX4_init_22 : decode cX4_init 22 = .ok (.aload_n 0, 1) := by decide +kernel
theorem dX4_init_23 : decode cX4_init 23 = .ok (.sipush 701, 3) := by decide +kernel
theorem dX4_init_26 : decode cX4_init 26 = .ok (.newarray .long, 2) := by decide +kernel
theorem dX4_init_28 : decode cX4_init 28 = .ok (.putfield 18, 3) := by decide +kernel
theorem dX4_init_31 : decode cX4_init 31 = .ok (.aload_n 0, 1) := by decide +kernel
theorem dX4_init_32 : decode cX4_init 32 = .ok (.iconst (-1), 1) := by decide +kernel
theorem dX4_init_33 : decode cX4_init 33 = .ok (.putfield 22, 3) := by decide +kernel
theorem dX4_init_36 : decode cX4_init 36 = .ok (.return_, 1) := by decide +kernel
theorem dX4_begin_0 : decode cX4_begin 0 = .ok (.iload_n 2, 1) := by decide +kernel
theorem dX4_begin_1 : decode cX4_begin 1 = .ok (.aload_n 1, 1) := by decide +kernel
theorem dX4_begin_2 : decode cX4_begin 2 = .ok (.arraylength, 1) := by decide +kernel
theorem dX4_begin_3 : decode cX4_begin 3 = .ok (.invokestatic 26, 3) := by decide +kernel
theorem dX4_begin_6 : decode cX4_begin 6 = .ok (.istore_n 3, 1) := by decide +kernel
theorem dX4_begin_7 : decode cX4_begin 7 = .ok (.aload_n 0, 1) := by decide +kernel
theorem dX4_begin_8 : decode cX4_begin 8 = .ok (.iconst 0, 1) := by decide +kernel
theorem dX4_begin_9 : decode cX4_begin 9 = .ok (.putfield 32, 3) := by decide +kernel
theorem dX4_begin_12 : decode cX4_begin 12 = .ok (.aload_n 0, 1) := by decide +kernel
theorem dX4_begin_13 : decode cX4_begin 13 = .ok (.iconst 0, 1) := by decide +kernel
theorem dX4_begin_14 : decode cX4_begin 14 = .ok (.putfield 35, 3) := by decide +kernel
theorem dX4_begin_17 : decode cX4_begin 17 = .ok (.aload_n 0, 1) := by decide +kernel
theorem dX4_begin_18 : decode cX4_begin 18 = .ok (.iconst 0, 1) := by decide +kernel
theorem dX4_begin_19 : decode cX4_begin 19 = .ok (.putfield 38, 3) := by decide +kernel
theorem dX4_begin_22 : decode cX4_begin 22 = .ok (.aload_n 0, 1) := by decide +kernel
theorem dX4_begin_23 : decode cX4_begin 23 = .ok (.iconst (-1), 1) := by decide +kernel
theorem dX4_begin_24 : decode cX4_begin 24 = .ok (.putfield 22, 3) := by decide +kernel
theorem dX4_begin_27 : decode cX4_begin 27 = .ok (.iconst 0, 1) := by decide +kernel
theorem dX4_begin_28 : decode cX4_begin 28 = .ok (.istore 4, 2) := by decide +kernel
theorem dX4_begin_30 : decode cX4_begin 30 = .ok (.iconst 0, 1) := by decide +kernel
theorem dX4_begin_31 : decode cX4_begin 31 = .ok (.istore 5, 2) := by decide +kernel
theorem dX4_begin_33 : decode cX4_begin 33 = .ok (.iload 5, 2) := by decide +kernel
theorem dX4_begin_35 : decode cX4_begin 35 = .ok (.sipush 700, 3) := by decide +kernel
theorem dX4_begin_38 : decode cX4_begin 38 = .ok (.if_icmp .ge 74, 3) := by decide +kernel
theorem dX4_begin_41 : decode cX4_begin 41 = .ok (.iload 4, 2) := by decide +kernel
theorem dX4_begin_43 : decode cX4_begin 43 = .ok (.iload_n 3, 1) := by decide +kernel
theorem dX4_begin_44 : decode cX4_begin 44 = .ok (.if_icmp .ge 68, 3) := by decide +kernel
theorem dX4_begin_47 : decode cX4_begin 47 = .ok (.aload_n 1, 1) := by decide +kernel
theorem dX4_begin_48 : decode cX4_begin 48 = .ok (.iload 4, 2) := by decide +kernel
theorem dX4_begin_50 : decode cX4_begin 50 = .ok (.baload, 1) := by decide +kernel
theorem dX4_begin_51 : decode cX4_begin 51 = .ok (.invokestatic 41, 3) := by decide +kernel
theorem dX4_begin_54 : decode cX4_begin 54 = .ok (.ifCond .eq 16, 3) := by decide +kernel
theorem dX4_begin_57 : decode cX4_begin 57 = .ok (.aload_n 0, 1) := by decide +kernel
theorem dX4_begin_58 : decode cX4_begin 58 = .ok (.aload_n 1, 1) := by decide +kernel
theorem dX4_begin_59 : decode cX4_begin 59 = .ok (.iload 4, 2) := by decide +kernel
theorem dX4_begin_61 : decode cX4_begin 61 = .ok (.iload_n 3, 1) := by decide +kernel
theorem dX4_begin_62 : decode cX4_begin 62 = .ok (.invokevirtual 45, 3) := by decide +kernel
theorem dX4_begin_65 : decode cX4_begin 65 = .ok (.istore 4, 2) := by decide +kernel
theorem dX4_begin_67 : decode cX4_begin 67 = .ok (.goto 39, 3) := by decide +kernel
theorem dX4_begin_70 : decode cX4_begin 70 = .ok (.aload_n 1, 1) := by decide +kernel
theorem dX4_begin_71 : decode cX4_begin 71 = .ok (.iload 4, 2) := by decide +kernel
theorem dX4_begin_73 : decode cX4_begin 73 = .ok (.baload, 1) := by decide +kernel
theorem dX4_begin_74 : decode cX4_begin 74 = .ok (.invokestatic 49, 3) := by decide +kernel
theorem dX4_begin_77 : decode cX4_begin 77 = .ok (.ifCond .eq 16, 3) := by decide +kernel
theorem dX4_begin_80 : decode cX4_begin 80 = .ok (.aload_n 0, 1) := by decide +kernel
theorem dX4_begin_81 : decode cX4_begin 81 = .ok (.aload_n 1, 1) := by decide +kernel
theorem dX4_begin_82 : decode cX4_begin 82 = .ok (.iload 4, 2) := by decide +kernel
theorem dX4_begin_84 : decode cX4_begin 84 = .ok (.iload_n 3, 1) := by decide +kernel
theorem dX4_begin_85 : decode cX4_begin 85 = .ok (.invokevirtual 52, 3) := by decide +kernel
theorem dX4_begin_88 : decode cX4_begin 88 = .ok (.istore 4, 2) := by decide +kernel
theorem dX4_begin_90 : decode cX4_begin 90 = .ok (.goto 16, 3) := by decide +kernel
theorem dX4_begin_93 : decode cX4_begin 93 = .ok (.aload_n 0, 1) := by decide +kernel
theorem dX4_begin_94 : decode cX4_begin 94 = .ok (.aload_n 1, 1) := by decide +kernel
theorem dX4_begin_95 : decode cX4_begin 95 = .ok (.iload 4, 2) := by decide +kernel
theorem dX4_begin_97 : decode cX4_begin 97 = .ok (.baload, 1) := by decide +kernel
theorem dX4_begin_98 : decode cX4_begin 98 = .ok (.iload 4, 2) := by decide +kernel
theorem dX4_begin_100 : decode cX4_begin 100 = .ok (.invokevirtual 55, 3) := by decide +kernel
theorem dX4_begin_103 : decode cX4_begin 103 = .ok (.iinc 4 1, 3) := by decide +kernel
theorem dX4_begin_106 : decode cX4_begin 106 = .ok (.iinc 5 1, 3) := by decide +kernel
theorem dX4_begin_109 : decode cX4_begin 109 = .ok (.goto (-76), 3) := by decide +kernel
theorem dX4_begin_112 : decode cX4_begin 112 = .ok (.aload_n 0, 1) := by decide +kernel
theorem dX4_begin_113 : decode cX4_begin 113 = .ok (.iconst 0, 1) := by decide +kernel
theorem dX4_begin_114 : decode cX4_begin 114 = .ok (.iload_n 3, 1) := by decide +kernel
theorem dX4_begin_115 : decode cX4_begin 115 = .ok (.lconst 0, 1) := by decide +kernel
theorem dX4_begin_116 : decode cX4_begin 116 = .ok (.invokevirtual 59, 3) := by decide +kernel
theorem dX4_begin_119 : decode cX4_begin 119 = .ok (.aload_n 0, 1) := by decide +kernel
theorem dX4_begin_120 : decode cX4_begin 120 = .ok (.invokevirtual 63, 3) := by decide +kernel
theorem dX4_begin_123 : decode cX4_begin 123 = .ok (.return_, 1) := by decide +kernel
theorem dX4_addWord_0 : decode cX4_addWord 0 = .ok (.lconst 0, 1) := by decide +kernel
theorem dX4_addWord_1 : decode cX4_addWord 1 = .ok (.lstore 4, 2) := by decide +kernel
theorem dX4_addWord_3 : decode cX4_addWord 3 = .ok (.iload_n 2, 1) := by decide +kernel
theorem dX4_addWord_4 : decode cX4_addWord 4 = .ok (.istore 6, 2) := by decide +kernel
theorem dX4_addWord_6 : decode cX4_addWord 6 = .ok (.iload 6, 2) := by decide +kernel
theorem dX4_addWord_8 : decode cX4_addWord 8 = .ok (.iload_n 3, 1) := by decide +kernel
theorem dX4_addWord_9 : decode cX4_addWord 9 = .ok (.if_icmp .ge 46, 3) := by decide +kernel
theorem dX4_addWord_12 : decode cX4_addWord 12 = .ok (.aload_n 1, 1) := by decide +kernel
theorem dX4_addWord_13 : decode cX4_addWord 13 = .ok (.iload 6, 2) := by decide +kernel
theorem dX4_addWord_15 : decode cX4_addWord 15 = .ok (.baload, 1) := by decide +kernel
theorem dX4_addWord_16 : decode cX4_addWord 16 = .ok (.invokestatic 41, 3) := by decide +kernel
theorem dX4_addWord_19 : decode cX4_addWord 19 = .ok (.ifCond .eq 36, 3) := by decide +kernel
theorem dX4_addWord_22 : decode cX4_addWord 22 = .ok (.iload 6, 2) := by decide +kernel
theorem dX4_addWord_24 : decode cX4_addWord 24 = .ok (.iload_n 2, 1) := by decide +kernel
theorem dX4_addWord_25 : decode cX4_addWord 25 = .ok (.isub, 1) := by decide +kernel
theorem dX4_addWord_26 : decode cX4_addWord 26 = .ok (.bipush 8, 2) := by decide +kernel
theorem dX4_addWord_28 : decode cX4_addWord 28 = .ok (.if_icmp .ge 21, 3) := by decide +kernel
theorem dX4_addWord_31 : decode cX4_addWord 31 = .ok (.lload 4, 2) := by decide +kernel
theorem dX4_addWord_33 : decode cX4_addWord 33 = .ok (.aload_n 1, 1) := by decide +kernel
theorem dX4_addWord_34 : decode cX4_addWord 34 = .ok (.iload 6, 2) := by decide +kernel
theorem dX4_addWord_36 : decode cX4_addWord 36 = .ok (.baload, 1) := by decide +kernel
theorem dX4_addWord_37 : decode cX4_addWord 37 = .ok (.i2l, 1) := by decide +kernel
theorem dX4_addWord_38 : decode cX4_addWord 38 = .ok (.bipush 8, 2) := by decide +kernel
theorem dX4_addWord_40 : decode cX4_addWord 40 = .ok (.iload 6, 2) := by decide +kernel
theorem dX4_addWord_42 : decode cX4_addWord 42 = .ok (.iload_n 2, 1) := by decide +kernel
theorem dX4_addWord_43 : decode cX4_addWord 43 = .ok (.isub, 1) := by decide +kernel
theorem dX4_addWord_44 : decode cX4_addWord 44 = .ok (.imul, 1) := by decide +kernel
theorem dX4_addWord_45 : decode cX4_addWord 45 = .ok (.lshl, 1) := by decide +kernel
theorem dX4_addWord_46 : decode cX4_addWord 46 = .ok (.lor, 1) := by decide +kernel
theorem dX4_addWord_47 : decode cX4_addWord 47 = .ok (.lstore 4, 2) := by decide +kernel
theorem dX4_addWord_49 : decode cX4_addWord 49 = .ok (.iinc 6 1, 3) := by decide +kernel
theorem dX4_addWord_52 : decode cX4_addWord 52 = .ok (.goto (-46), 3) := by decide +kernel
theorem dX4_addWord_55 : decode cX4_addWord 55 = .ok (.aload_n 0, 1) := by decide +kernel
theorem dX4_addWord_56 : decode cX4_addWord 56 = .ok (.iload 6, 2) := by decide +kernel
theorem dX4_addWord_58 : decode cX4_addWord 58 = .ok (.iload_n 2, 1) := by decide +kernel
theorem dX4_addWord_59 : decode cX4_addWord 59 = .ok (.isub, 1) := by decide +kernel
theorem dX4_addWord_60 : decode cX4_addWord 60 = .ok (.bipush 8, 2) := by decide +kernel
theorem dX4_addWord_62 : decode cX4_addWord 62 = .ok (.if_icmp .le 7, 3) := by decide +kernel
theorem dX4_addWord_65 : decode cX4_addWord 65 = .ok (.iconst 3, 1) := by decide +kernel
theorem dX4_addWord_66 : decode cX4_addWord 66 = .ok (.goto 4, 3) := by decide +kernel
theorem dX4_addWord_69 : decode cX4_addWord 69 = .ok (.iconst 1, 1) := by decide +kernel
theorem dX4_addWord_70 : decode cX4_addWord 70 = .ok (.iload_n 2, 1) := by decide +kernel
theorem dX4_addWord_71 : decode cX4_addWord 71 = .ok (.lload 4, 2) := by decide +kernel
theorem dX4_addWord_73 : decode cX4_addWord 73 = .ok (.invokevirtual 59, 3) := by decide +kernel
theorem dX4_addWord_76 : decode cX4_addWord 76 = .ok (.iload 6, 2) := by decide +kernel
theorem dX4_addWord_78 : decode cX4_addWord 78 = .ok (.ireturn, 1) := by decide +kernel
theorem dX4_addNumber_0 : decode cX4_addNumber 0 = .ok (.iconst 0, 1) := by decide +kernel
theorem dX4_addNumber_1 : decode cX4_addNumber 1 = .ok (.istore 4, 2) := by decide +kernel
theorem dX4_addNumber_3 : decode cX4_addNumber 3 = .ok (.iload_n 2, 1) := by decide +kernel
theorem dX4_addNumber_4 : decode cX4_addNumber 4 = .ok (.istore 5, 2) := by decide +kernel
theorem dX4_addNumber_6 : decode cX4_addNumber 6 = .ok (.iload 5, 2) := by decide +kernel
theorem dX4_addNumber_8 : decode cX4_addNumber 8 = .ok (.iload_n 3, 1) := by decide +kernel
theorem dX4_addNumber_9 : decode cX4_addNumber 9 = .ok (.if_icmp .ge 42, 3) := by decide +kernel
theorem dX4_addNumber_12 : decode cX4_addNumber 12 = .ok (.aload_n 1, 1) := by decide +kernel
theorem dX4_addNumber_13 : decode cX4_addNumber 13 = .ok (.iload 5, 2) := by decide +kernel
theorem dX4_addNumber_15 : decode cX4_addNumber 15 = .ok (.baload, 1) := by decide +kernel
theorem dX4_addNumber_16 : decode cX4_addNumber 16 = .ok (.invokestatic 49, 3) := by decide +kernel
theorem dX4_addNumber_19 : decode cX4_addNumber 19 = .ok (.ifCond .eq 32, 3) := by decide +kernel
theorem dX4_addNumber_22 : decode cX4_addNumber 22 = .ok (.iload 5, 2) := by decide +kernel
theorem dX4_addNumber_24 : decode cX4_addNumber 24 = .ok (.iload_n 2, 1) := by decide +kernel
theorem dX4_addNumber_25 : decode cX4_addNumber 25 = .ok (.isub, 1) := by decide +kernel
theorem dX4_addNumber_26 : decode cX4_addNumber 26 = .ok (.iconst 3, 1) := by decide +kernel
theorem dX4_addNumber_27 : decode cX4_addNumber 27 = .ok (.if_icmp .ge 18, 3) := by decide +kernel
theorem dX4_addNumber_30 : decode cX4_addNumber 30 = .ok (.iload 4, 2) := by decide +kernel
theorem dX4_addNumber_32 : decode cX4_addNumber 32 = .ok (.bipush 10, 2) := by decide +kernel
theorem dX4_addNumber_34 : decode cX4_addNumber 34 = .ok (.imul, 1) := by decide +kernel
theorem dX4_addNumber_35 : decode cX4_addNumber 35 = .ok (.aload_n 1, 1) := by decide +kernel
theorem dX4_addNumber_36 : decode cX4_addNumber 36 = .ok (.iload 5, 2) := by decide +kernel
theorem dX4_addNumber_38 : decode cX4_addNumber 38 = .ok (.baload, 1) := by decide +kernel
theorem dX4_addNumber_39 : decode cX4_addNumber 39 = .ok (.iadd, 1) := by decide +kernel
theorem dX4_addNumber_40 : decode cX4_addNumber 40 = .ok (.bipush 48, 2) := by decide +kernel
theorem dX4_addNumber_42 : decode cX4_addNumber 42 = .ok (.isub, 1) := by decide +kernel
theorem dX4_addNumber_43 : decode cX4_addNumber 43 = .ok (.istore 4, 2) := by decide +kernel
theorem dX4_addNumber_45 : decode cX4_addNumber 45 = .ok (.iinc 5 1, 3) := by decide +kernel
theorem dX4_addNumber_48 : decode cX4_addNumber 48 = .ok (.goto (-42), 3) := by decide +kernel
theorem dX4_addNumber_51 : decode cX4_addNumber 51 = .ok (.aload_n 0, 1) := by decide +kernel
theorem dX4_addNumber_52 : decode cX4_addNumber 52 = .ok (.iload 5, 2) := by decide +kernel
theorem dX4_addNumber_54 : decode cX4_addNumber 54 = .ok (.iload_n 2, 1) := by decide +kernel
theorem dX4_addNumber_55 : decode cX4_addNumber 55 = .ok (.isub, 1) := by decide +kernel
theorem dX4_addNumber_56 : decode cX4_addNumber 56 = .ok (.iconst 3, 1) := by decide +kernel
theorem dX4_addNumber_57 : decode cX4_addNumber 57 = .ok (.if_icmp .le 7, 3) := by decide +kernel
theorem dX4_addNumber_60 : decode cX4_addNumber 60 = .ok (.iconst 3, 1) := by decide +kernel
theorem dX4_addNumber_61 : decode cX4_addNumber 61 = .ok (.goto 4, 3) := by decide +kernel
theorem dX4_addNumber_64 : decode cX4_addNumber 64 = .ok (.iconst 2, 1) := by decide +kernel
theorem dX4_addNumber_65 : decode cX4_addNumber 65 = .ok (.iload_n 2, 1) := by decide +kernel
theorem dX4_addNumber_66 : decode cX4_addNumber 66 = .ok (.iload 4, 2) := by decide +kernel
theorem dX4_addNumber_68 : decode cX4_addNumber 68 = .ok (.i2l, 1) := by decide +kernel
theorem dX4_addNumber_69 : decode cX4_addNumber 69 = .ok (.invokevirtual 59, 3) := by decide +kernel
theorem dX4_addNumber_72 : decode cX4_addNumber 72 = .ok (.iload 5, 2) := by decide +kernel
theorem dX4_addNumber_74 : decode cX4_addNumber 74 = .ok (.ireturn, 1) := by decide +kernel
theorem dX4_addSign_0 : decode cX4_addSign 0 = .ok (.iload_n 1, 1) := by decide +kernel
theorem dX4_addSign_1 : decode cX4_addSign 1 = .ok (.bipush 59, 2) := by decide +kernel
theorem dX4_addSign_3 : decode cX4_addSign 3 = .ok (.if_icmp .eq 15, 3) := by decide +kernel
theorem dX4_addSign_6 : decode cX4_addSign 6 = .ok (.iload_n 1, 1) := by decide +kernel
theorem dX4_addSign_7 : decode cX4_addSign 7 = .ok (.bipush 40, 2) := by decide +kernel
theorem dX4_addSign_9 : decode cX4_addSign 9 = .ok (.if_icmp .eq 9, 3) := by decide +kernel
theorem dX4_addSign_12 : decode cX4_addSign 12 = .ok (.iload_n 1, 1) := by decide +kernel
theorem dX4_addSign_13 : decode cX4_addSign 13 = .ok (.bipush 41, 2) := by decide +kernel
theorem dX4_addSign_15 : decode cX4_addSign 15 = .ok (.if_icmp .ne 13, 3) := by decide +kernel
theorem dX4_addSign_18 : decode cX4_addSign 18 = .ok (.aload_n 0, 1) := by decide +kernel
theorem dX4_addSign_19 : decode cX4_addSign 19 = .ok (.iload_n 1, 1) := by decide +kernel
theorem dX4_addSign_20 : decode cX4_addSign 20 = .ok (.iload_n 2, 1) := by decide +kernel
theorem dX4_addSign_21 : decode cX4_addSign 21 = .ok (.lconst 0, 1) := by decide +kernel
theorem dX4_addSign_22 : decode cX4_addSign 22 = .ok (.invokevirtual 59, 3) := by decide +kernel
theorem dX4_addSign_25 : decode cX4_addSign 25 = .ok (.goto 22, 3) := by decide +kernel
theorem dX4_addSign_28 : decode cX4_addSign 28 = .ok (.iload_n 1, 1) := by decide +kernel
theorem dX4_addSign_29 : decode cX4_addSign 29 = .ok (.bipush 32, 2) := by decide +kernel
theorem dX4_addSign_31 : decode cX4_addSign 31 = .ok (.if_icmp .eq 16, 3) := by decide +kernel
theorem dX4_addSign_34 : decode cX4_addSign 34 = .ok (.iload_n 1, 1) := by decide +kernel
theorem dX4_addSign_35 : decode cX4_addSign 35 = .ok (.bipush 10, 2) := by decide +kernel
theorem dX4_addSign_37 : decode cX4_addSign 37 = .ok (.if_icmp .eq 10, 3) := by decide +kernel
theorem dX4_addSign_40 : decode cX4_addSign 40 = .ok (.aload_n 0, 1) := by decide +kernel
theorem dX4_addSign_41 : decode cX4_addSign 41 = .ok (.iconst 3, 1) := by decide +kernel
theorem dX4_addSign_42 : decode cX4_addSign 42 = .ok (.iload_n 2, 1) := by decide +kernel
theorem dX4_addSign_43 : decode cX4_addSign 43 = .ok (.lconst 0, 1) := by decide +kernel
theorem dX4_addSign_44 : decode cX4_addSign 44 = .ok (.invokevirtual 59, 3) := by decide +kernel
theorem dX4_addSign_47 : decode cX4_addSign 47 = .ok (.return_, 1) := by decide +kernel
theorem dX4_add_0 : decode cX4_add 0 = .ok (.aload_n 0, 1) := by decide +kernel
theorem dX4_add_1 : decode cX4_add 1 = .ok (.getfield 32, 3) := by decide +kernel
theorem dX4_add_4 : decode cX4_add 4 = .ok (.sipush 700, 3) := by decide +kernel
theorem dX4_add_7 : decode cX4_add 7 = .ok (.if_icmp .gt 43, 3) := by decide +kernel
theorem dX4_add_10 : decode cX4_add 10 = .ok (.aload_n 0, 1) := by decide +kernel
theorem dX4_add_11 : decode cX4_add 11 = .ok (.getfield 9, 3) := by decide +kernel
theorem dX4_add_14 : decode cX4_add 14 = .ok (.aload_n 0, 1) := by decide +kernel
theorem dX4_add_15 : decode cX4_add 15 = .ok (.getfield 32, 3) := by decide +kernel
theorem dX4_add_18 : decode cX4_add 18 = .ok (.iload_n 1, 1) := by decide +kernel
theorem dX4_add_19 : decode cX4_add 19 = .ok (.iastore, 1) := by decide +kernel
theorem dX4_add_20 : decode cX4_add 20 = .ok (.aload_n 0, 1) := by decide +kernel
theorem dX4_add_21 : decode cX4_add 21 = .ok (.getfield 15, 3) := by decide +kernel
theorem dX4_add_24 : decode cX4_add 24 = .ok (.aload_n 0, 1) := by decide +kernel
theorem dX4_add_25 : decode cX4_add 25 = .ok (.getfield 32, 3) := by decide +kernel
theorem dX4_add_28 : decode cX4_add 28 = .ok (.iload_n 2, 1) := by decide +kernel
theorem dX4_add_29 : decode cX4_add 29 = .ok (.iastore, 1) := by decide +kernel
theorem dX4_add_30 : decode cX4_add 30 = .ok (.aload_n 0, 1) := by decide +kernel
theorem dX4_add_31 : decode cX4_add 31 = .ok (.getfield 18, 3) := by decide +kernel
theorem dX4_add_34 : decode cX4_add 34 = .ok (.aload_n 0, 1) := by decide +kernel
theorem dX4_add_35 : decode cX4_add 35 = .ok (.getfield 32, 3) := by decide +kernel
theorem dX4_add_38 : decode cX4_add 38 = .ok (.lload_n 3, 1) := by decide +kernel
theorem dX4_add_39 : decode cX4_add 39 = .ok (.lastore, 1) := by decide +kernel
theorem dX4_add_40 : decode cX4_add 40 = .ok (.aload_n 0, 1) := by decide +kernel
theorem dX4_add_41 : decode cX4_add 41 = .ok (.dup, 1) := by decide +kernel
theorem dX4_add_42 : decode cX4_add 42 = .ok (.getfield 32, 3) := by decide +kernel
theorem dX4_add_45 : decode cX4_add 45 = .ok (.iconst 1, 1) := by decide +kernel
theorem dX4_add_46 : decode cX4_add 46 = .ok (.iadd, 1) := by decide +kernel
theorem dX4_add_47 : decode cX4_add 47 = .ok (.putfield 32, 3) := by decide +kernel
theorem dX4_add_50 : decode cX4_add 50 = .ok (.return_, 1) := by decide +kernel
theorem dX4_isLetter_0 : decode cX4_isLetter 0 = .ok (.iload_n 0, 1) := by decide +kernel
theorem dX4_isLetter_1 : decode cX4_isLetter 1 = .ok (.bipush 97, 2) := by decide +kernel
theorem dX4_isLetter_3 : decode cX4_isLetter 3 = .ok (.if_icmp .lt 13, 3) := by decide +kernel
theorem dX4_isLetter_6 : decode cX4_isLetter 6 = .ok (.iload_n 0, 1) := by decide +kernel
theorem dX4_isLetter_7 : decode cX4_isLetter 7 = .ok (.bipush 122, 2) := by decide +kernel
theorem dX4_isLetter_9 : decode cX4_isLetter 9 = .ok (.if_icmp .gt 7, 3) := by decide +kernel
theorem dX4_isLetter_12 : decode cX4_isLetter 12 = .ok (.iconst 1, 1) := by decide +kernel
theorem dX4_isLetter_13 : decode cX4_isLetter 13 = .ok (.goto 4, 3) := by decide +kernel
theorem dX4_isLetter_16 : decode cX4_isLetter 16 = .ok (.iconst 0, 1) := by decide +kernel
theorem dX4_isLetter_17 : decode cX4_isLetter 17 = .ok (.ireturn, 1) := by decide +kernel
theorem dX4_isDigit_0 : decode cX4_isDigit 0 = .ok (.iload_n 0, 1) := by decide +kernel
theorem dX4_isDigit_1 : decode cX4_isDigit 1 = .ok (.bipush 48, 2) := by decide +kernel
theorem dX4_isDigit_3 : decode cX4_isDigit 3 = .ok (.if_icmp .lt 13, 3) := by decide +kernel
theorem dX4_isDigit_6 : decode cX4_isDigit 6 = .ok (.iload_n 0, 1) := by decide +kernel
theorem dX4_isDigit_7 : decode cX4_isDigit 7 = .ok (.bipush 57, 2) := by decide +kernel
theorem dX4_isDigit_9 : decode cX4_isDigit 9 = .ok (.if_icmp .gt 7, 3) := by decide +kernel
theorem dX4_isDigit_12 : decode cX4_isDigit 12 = .ok (.iconst 1, 1) := by decide +kernel
theorem dX4_isDigit_13 : decode cX4_isDigit 13 = .ok (.goto 4, 3) := by decide +kernel
theorem dX4_isDigit_16 : decode cX4_isDigit 16 = .ok (.iconst 0, 1) := by decide +kernel
theorem dX4_isDigit_17 : decode cX4_isDigit 17 = .ok (.ireturn, 1) := by decide +kernel
theorem dX4_advance_0 : decode cX4_advance 0 = .ok (.aload_n 0, 1) := by decide +kernel
theorem dX4_advance_1 : decode cX4_advance 1 = .ok (.getfield 35, 3) := by decide +kernel
theorem dX4_advance_4 : decode cX4_advance 4 = .ok (.aload_n 0, 1) := by decide +kernel
theorem dX4_advance_5 : decode cX4_advance 5 = .ok (.getfield 32, 3) := by decide +kernel
theorem dX4_advance_8 : decode cX4_advance 8 = .ok (.if_icmp .ge 52, 3) := by decide +kernel
theorem dX4_advance_11 : decode cX4_advance 11 = .ok (.aload_n 0, 1) := by decide +kernel
theorem dX4_advance_12 : decode cX4_advance 12 = .ok (.aload_n 0, 1) := by decide +kernel
theorem dX4_advance_13 : decode cX4_advance 13 = .ok (.getfield 9, 3) := by decide +kernel
theorem dX4_advance_16 : decode cX4_advance 16 = .ok (.aload_n 0, 1) := by decide +kernel
theorem dX4_advance_17 : decode cX4_advance 17 = .ok (.getfield 35, 3) := by decide +kernel
theorem dX4_advance_20 : decode cX4_advance 20 = .ok (.iaload, 1) := by decide +kernel
theorem dX4_advance_21 : decode cX4_advance 21 = .ok (.putfield 66, 3) := by decide +kernel
theorem dX4_advance_24 : decode cX4_advance 24 = .ok (.aload_n 0, 1) := by decide +kernel
theorem dX4_advance_25 : decode cX4_advance 25 = .ok (.aload_n 0, 1) := by decide +kernel
theorem dX4_advance_26 : decode cX4_advance 26 = .ok (.getfield 15, 3) := by decide +kernel
theorem dX4_advance_29 : decode cX4_advance 29 = .ok (.aload_n 0, 1) := by decide +kernel
theorem dX4_advance_30 : decode cX4_advance 30 = .ok (.getfield 35, 3) := by decide +kernel
theorem dX4_advance_33 : decode cX4_advance 33 = .ok (.iaload, 1) := by decide +kernel
theorem dX4_advance_34 : decode cX4_advance 34 = .ok (.putfield 69, 3) := by decide +kernel
theorem dX4_advance_37 : decode cX4_advance 37 = .ok (.aload_n 0, 1) := by decide +kernel
theorem dX4_advance_38 : decode cX4_advance 38 = .ok (.aload_n 0, 1) := by decide +kernel
theorem dX4_advance_39 : decode cX4_advance 39 = .ok (.getfield 18, 3) := by decide +kernel
theorem dX4_advance_42 : decode cX4_advance 42 = .ok (.aload_n 0, 1) := by decide +kernel
theorem dX4_advance_43 : decode cX4_advance 43 = .ok (.getfield 35, 3) := by decide +kernel
theorem dX4_advance_46 : decode cX4_advance 46 = .ok (.laload, 1) := by decide +kernel
theorem dX4_advance_47 : decode cX4_advance 47 = .ok (.putfield 72, 3) := by decide +kernel
theorem dX4_advance_50 : decode cX4_advance 50 = .ok (.aload_n 0, 1) := by decide +kernel
theorem dX4_advance_51 : decode cX4_advance 51 = .ok (.dup, 1) := by decide +kernel
theorem dX4_advance_52 : decode cX4_advance 52 = .ok (.getfield 35, 3) := by decide +kernel
theorem dX4_advance_55 : decode cX4_advance 55 = .ok (.iconst 1, 1) := by decide +kernel
theorem dX4_advance_56 : decode cX4_advance 56 = .ok (.iadd, 1) := by decide +kernel
theorem dX4_advance_57 : decode cX4_advance 57 = .ok (.putfield 35, 3) := by decide +kernel
theorem dX4_advance_60 : decode cX4_advance 60 = .ok (.return_, 1) := by decide +kernel
theorem dX4_isWord_0 : decode cX4_isWord 0 = .ok (.aload_n 0, 1) := by decide +kernel
theorem dX4_isWord_1 : decode cX4_isWord 1 = .ok (.getfield 66, 3) := by decide +kernel
theorem dX4_isWord_4 : decode cX4_isWord 4 = .ok (.iconst 1, 1) := by decide +kernel
theorem dX4_isWord_5 : decode cX4_isWord 5 = .ok (.if_icmp .ne 17, 3) := by decide +kernel
theorem dX4_isWord_8 : decode cX4_isWord 8 = .ok (.aload_n 0, 1) := by decide +kernel
theorem dX4_isWord_9 : decode cX4_isWord 9 = .ok (.getfield 72, 3) := by decide +kernel
theorem dX4_isWord_12 : decode cX4_isWord 12 = .ok (.aload_n 1, 1) := by decide +kernel
theorem dX4_isWord_13 : decode cX4_isWord 13 = .ok (.invokevirtual 76, 3) := by decide +kernel
theorem dX4_isWord_16 : decode cX4_isWord 16 = .ok (.invokestatic 82, 3) := by decide +kernel
theorem dX4_isWord_19 : decode cX4_isWord 19 = .ok (.ifCond .eq 5, 3) := by decide +kernel
theorem dX4_isWord_22 : decode cX4_isWord 22 = .ok (.iconst 0, 1) := by decide +kernel
theorem dX4_isWord_23 : decode cX4_isWord 23 = .ok (.ireturn, 1) := by decide +kernel
theorem dX4_isWord_24 : decode cX4_isWord 24 = .ok (.iconst 0, 1) := by decide +kernel
theorem dX4_isWord_25 : decode cX4_isWord 25 = .ok (.istore_n 2, 1) := by decide +kernel
theorem dX4_isWord_26 : decode cX4_isWord 26 = .ok (.iload_n 2, 1) := by decide +kernel
theorem dX4_isWord_27 : decode cX4_isWord 27 = .ok (.aload_n 1, 1) := by decide +kernel
theorem dX4_isWord_28 : decode cX4_isWord 28 = .ok (.invokevirtual 76, 3) := by decide +kernel
theorem dX4_isWord_31 : decode cX4_isWord 31 = .ok (.if_icmp .ge 27, 3) := by decide +kernel
theorem dX4_isWord_34 : decode cX4_isWord 34 = .ok (.aload_n 0, 1) := by decide +kernel
theorem dX4_isWord_35 : decode cX4_isWord 35 = .ok (.getfield 72, 3) := by decide +kernel
theorem dX4_isWord_38 : decode cX4_isWord 38 = .ok (.iload_n 2, 1) := by decide +kernel
theorem dX4_isWord_39 : decode cX4_isWord 39 = .ok (.invokestatic 82, 3) := by decide +kernel
theorem dX4_isWord_42 : decode cX4_isWord 42 = .ok (.aload_n 1, 1) := by decide +kernel
theorem dX4_isWord_43 : decode cX4_isWord 43 = .ok (.iload_n 2, 1) := by decide +kernel
theorem dX4_isWord_44 : decode cX4_isWord 44 = .ok (.invokevirtual 86, 3) := by decide +kernel
theorem dX4_isWord_47 : decode cX4_isWord 47 = .ok (.if_icmp .eq 5, 3) := by decide +kernel
theorem dX4_isWord_50 : decode cX4_isWord 50 = .ok (.iconst 0, 1) := by decide +kernel
theorem dX4_isWord_51 : decode cX4_isWord 51 = .ok (.ireturn, 1) := by decide +kernel
theorem dX4_isWord_52 : decode cX4_isWord 52 = .ok (.iinc 2 1, 3) := by decide +kernel
theorem dX4_isWord_55 : decode cX4_isWord 55 = .ok (.goto (-29), 3) := by decide +kernel
theorem dX4_isWord_58 : decode cX4_isWord 58 = .ok (.iconst 1, 1) := by decide +kernel
theorem dX4_isWord_59 : decode cX4_isWord 59 = .ok (.ireturn, 1) := by decide +kernel
theorem dX4_fail_0 : decode cX4_fail 0 = .ok (.aload_n 0, 1) := by decide +kernel
theorem dX4_fail_1 : decode cX4_fail 1 = .ok (.iload_n 1, 1) := by decide +kernel
theorem dX4_fail_2 : decode cX4_fail 2 = .ok (.putfield 38, 3) := by decide +kernel
theorem dX4_fail_5 : decode cX4_fail 5 = .ok (.aload_n 0, 1) := by decide +kernel
theorem dX4_fail_6 : decode cX4_fail 6 = .ok (.aload_n 0, 1) := by decide +kernel
theorem dX4_fail_7 : decode cX4_fail 7 = .ok (.getfield 69, 3) := by decide +kernel
theorem dX4_fail_10 : decode cX4_fail 10 = .ok (.putfield 22, 3) := by decide +kernel
theorem dX4_fail_13 : decode cX4_fail 13 = .ok (.iconst 0, 1) := by decide +kernel
theorem dX4_fail_14 : decode cX4_fail 14 = .ok (.ireturn, 1) := by decide +kernel
theorem dX4_takeWord_0 : decode cX4_takeWord 0 = .ok (.aload_n 0, 1) := by decide +kernel
theorem dX4_takeWord_1 : decode cX4_takeWord 1 = .ok (.aload_n 1, 1) := by decide +kernel
theorem dX4_takeWord_2 : decode cX4_takeWord 2 = .ok (.invokevirtual 90, 3) := by decide +kernel
theorem dX4_takeWord_5 : decode cX4_takeWord 5 = .ok (.ifCond .ne 9, 3) := by decide +kernel
theorem dX4_takeWord_8 : decode cX4_takeWord 8 = .ok (.aload_n 0, 1) := by decide +kernel
theorem dX4_takeWord_9 : decode cX4_takeWord 9 = .ok (.iconst 1, 1) := by decide +kernel
theorem dX4_takeWord_10 : decode cX4_takeWord 10 = .ok (.invokevirtual 94, 3) := by decide +kernel
theorem dX4_takeWord_13 : decode cX4_takeWord 13 = .ok (.ireturn, 1) := by decide +kernel
theorem dX4_takeWord_14 : decode cX4_takeWord 14 = .ok (.aload_n 0, 1) := by decide +kernel
theorem dX4_takeWord_15 : decode cX4_takeWord 15 = .ok (.invokevirtual 63, 3) := by decide +kernel
theorem dX4_takeWord_18 : decode cX4_takeWord 18 = .ok (.iconst 1, 1) := by decide +kernel
theorem dX4_takeWord_19 : decode cX4_takeWord 19 = .ok (.ireturn, 1) := by decide +kernel
theorem dX4_takeSign_0 : decode cX4_takeSign 0 = .ok (.aload_n 0, 1) := by decide +kernel
theorem dX4_takeSign_1 : decode cX4_takeSign 1 = .ok (.getfield 66, 3) := by decide +kernel
theorem dX4_takeSign_4 : decode cX4_takeSign 4 = .ok (.iload_n 1, 1) := by decide +kernel
theorem dX4_takeSign_5 : decode cX4_takeSign 5 = .ok (.if_icmp .eq 9, 3) := by decide +kernel
theorem dX4_takeSign_8 : decode cX4_takeSign 8 = .ok (.aload_n 0, 1) := by decide +kernel
theorem dX4_takeSign_9 : decode cX4_takeSign 9 = .ok (.iconst 1, 1) := by decide +kernel
theorem dX4_takeSign_10 : decode cX4_takeSign 10 = .ok (.invokevirtual 94, 3) := by decide +kernel
theorem dX4_takeSign_13 : decode cX4_takeSign 13 = .ok (.ireturn, 1) := by decide +kernel
theorem dX4_takeSign_14 : decode cX4_takeSign 14 = .ok (.aload_n 0, 1) := by decide +kernel
theorem dX4_takeSign_15 : decode cX4_takeSign 15 = .ok (.invokevirtual 63, 3) := by decide +kernel
theorem dX4_takeSign_18 : decode cX4_takeSign 18 = .ok (.iconst 1, 1) := by decide +kernel
theorem dX4_takeSign_19 : decode cX4_takeSign 19 = .ok (.ireturn, 1) := by decide +kernel
theorem dX4_takeNumber_0 : decode cX4_takeNumber 0 = .ok (.aload_n 0, 1) := by decide +kernel
theorem dX4_takeNumber_1 : decode cX4_takeNumber 1 = .ok (.getfield 66, 3) := by decide +kernel
theorem dX4_takeNumber_4 : decode cX4_takeNumber 4 = .ok (.iconst 2, 1) := by decide +kernel
theorem dX4_takeNumber_5 : decode cX4_takeNumber 5 = .ok (.if_icmp .eq 11, 3) := by decide +kernel
theorem dX4_takeNumber_8 : decode cX4_takeNumber 8 = .ok (.aload_n 0, 1) := by decide +kernel
theorem dX4_takeNumber_9 : decode cX4_takeNumber 9 = .ok (.iconst 1, 1) := by decide +kernel
theorem dX4_takeNumber_10 : decode cX4_takeNumber 10 = .ok (.invokevirtual 94, 3) := by decide +kernel
theorem dX4_takeNumber_13 : decode cX4_takeNumber 13 = .ok (.pop, 1) := by decide +kernel
theorem dX4_takeNumber_14 : decode cX4_takeNumber 14 = .ok (.iconst (-1), 1) := by decide +kernel
theorem dX4_takeNumber_15 : decode cX4_takeNumber 15 = .ok (.ireturn, 1) := by decide +kernel
theorem dX4_takeNumber_16 : decode cX4_takeNumber 16 = .ok (.aload_n 0, 1) := by decide +kernel
theorem dX4_takeNumber_17 : decode cX4_takeNumber 17 = .ok (.getfield 72, 3) := by decide +kernel
theorem dX4_takeNumber_20 : decode cX4_takeNumber 20 = .ok (.iload_n 1, 1) := by decide +kernel
theorem dX4_takeNumber_21 : decode cX4_takeNumber 21 = .ok (.i2l, 1) := by decide +kernel
theorem dX4_takeNumber_22 : decode cX4_takeNumber 22 = .ok (.lcmp, 1) := by decide +kernel
theorem dX4_takeNumber_23 : decode cX4_takeNumber 23 = .ok (.ifCond .lt 13, 3) := by decide +kernel
theorem dX4_takeNumber_26 : decode cX4_takeNumber 26 = .ok (.aload_n 0, 1) := by decide +kernel
theorem dX4_takeNumber_27 : decode cX4_takeNumber 27 = .ok (.getfield 72, 3) := by decide +kernel
theorem dX4_takeNumber_30 : decode cX4_takeNumber 30 = .ok (.iload_n 2, 1) := by decide +kernel
theorem dX4_takeNumber_31 : decode cX4_takeNumber 31 = .ok (.i2l, 1) := by decide +kernel
theorem dX4_takeNumber_32 : decode cX4_takeNumber 32 = .ok (.lcmp, 1) := by decide +kernel
theorem dX4_takeNumber_33 : decode cX4_takeNumber 33 = .ok (.ifCond .le 11, 3) := by decide +kernel
theorem dX4_takeNumber_36 : decode cX4_takeNumber 36 = .ok (.aload_n 0, 1) := by decide +kernel
theorem dX4_takeNumber_37 : decode cX4_takeNumber 37 = .ok (.iconst 2, 1) := by decide +kernel
theorem dX4_takeNumber_38 : decode cX4_takeNumber 38 = .ok (.invokevirtual 94, 3) := by decide +kernel
theorem dX4_takeNumber_41 : decode cX4_takeNumber 41 = .ok (.pop, 1) := by decide +kernel
theorem dX4_takeNumber_42 : decode cX4_takeNumber 42 = .ok (.iconst (-1), 1) := by decide +kernel
theorem dX4_takeNumber_43 : decode cX4_takeNumber 43 = .ok (.ireturn, 1) := by decide +kernel
theorem dX4_takeNumber_44 : decode cX4_takeNumber 44 = .ok (.aload_n 0, 1) := by decide +kernel
theorem dX4_takeNumber_45 : decode cX4_takeNumber 45 = .ok (.getfield 72, 3) := by decide +kernel
theorem dX4_takeNumber_48 : decode cX4_takeNumber 48 = .ok (.l2i, 1) := by decide +kernel
theorem dX4_takeNumber_49 : decode cX4_takeNumber 49 = .ok (.istore_n 3, 1) := by decide +kernel
theorem dX4_takeNumber_50 : decode cX4_takeNumber 50 = .ok (.aload_n 0, 1) := by decide +kernel
theorem dX4_takeNumber_51 : decode cX4_takeNumber 51 = .ok (.invokevirtual 63, 3) := by decide +kernel
theorem dX4_takeNumber_54 : decode cX4_takeNumber 54 = .ok (.iload_n 3, 1) := by decide +kernel
theorem dX4_takeNumber_55 : decode cX4_takeNumber 55 = .ok (.ireturn, 1) := by decide +kernel
theorem dX4_beaconHere_0 : decode cX4_beaconHere 0 = .ok (.aload_n 0, 1) := by decide +kernel
theorem dX4_beaconHere_1 : decode cX4_beaconHere 1 = .ok (.getfield 66, 3) := by decide +kernel
theorem dX4_beaconHere_4 : decode cX4_beaconHere 4 = .ok (.iconst 1, 1) := by decide +kernel
theorem dX4_beaconHere_5 : decode cX4_beaconHere 5 = .ok (.if_icmp .eq 11, 3) := by decide +kernel
theorem dX4_beaconHere_8 : decode cX4_beaconHere 8 = .ok (.aload_n 0, 1) := by decide +kernel
theorem dX4_beaconHere_9 : decode cX4_beaconHere 9 = .ok (.iconst 1, 1) := by decide +kernel
theorem dX4_beaconHere_10 : decode cX4_beaconHere 10 = .ok (.invokevirtual 94, 3) := by decide +kernel
theorem dX4_beaconHere_13 : decode cX4_beaconHere 13 = .ok (.pop, 1) := by decide +kernel
theorem dX4_beaconHere_14 : decode cX4_beaconHere 14 = .ok (.iconst (-1), 1) := by decide +kernel
theorem dX4_beaconHere_15 : decode cX4_beaconHere 15 = .ok (.ireturn, 1) := by decide +kernel
theorem dX4_beaconHere_16 : decode cX4_beaconHere 16 = .ok (.aload_n 1, 1) := by decide +kernel
theorem dX4_beaconHere_17 : decode cX4_beaconHere 17 = .ok (.aload_n 0, 1) := by decide +kernel
theorem dX4_beaconHere_18 : decode cX4_beaconHere 18 = .ok (.getfield 72, 3) := by decide +kernel
theorem dX4_beaconHere_21 : decode cX4_beaconHere 21 = .ok (.invokevirtual 97, 3) := by decide +kernel
theorem dX4_beaconHere_24 : decode cX4_beaconHere 24 = .ok (.istore_n 2, 1) := by decide +kernel
theorem dX4_beaconHere_25 : decode cX4_beaconHere 25 = .ok (.iload_n 2, 1) := by decide +kernel
theorem dX4_beaconHere_26 : decode cX4_beaconHere 26 = .ok (.iconst (-1), 1) := by decide +kernel
theorem dX4_beaconHere_27 : decode cX4_beaconHere 27 = .ok (.if_icmp .ne 9, 3) := by decide +kernel
theorem dX4_beaconHere_30 : decode cX4_beaconHere 30 = .ok (.aload_n 0, 1) := by decide +kernel
theorem dX4_beaconHere_31 : decode cX4_beaconHere 31 = .ok (.iconst 4, 1) := by decide +kernel
theorem dX4_beaconHere_32 : decode cX4_beaconHere 32 = .ok (.invokevirtual 94, 3) := by decide +kernel
theorem dX4_beaconHere_35 : decode cX4_beaconHere 35 = .ok (.pop, 1) := by decide +kernel
theorem dX4_beaconHere_36 : decode cX4_beaconHere 36 = .ok (.iload_n 2, 1) := by decide +kernel
theorem dX4_beaconHere_37 : decode cX4_beaconHere 37 = .ok (.ireturn, 1) := by decide +kernel
theorem dX5_init_0 : decode cX5_init 0 = .ok (.aload_n 0, 1) := by decide +kernel
theorem dX5_init_1 : decode cX5_init 1 = .ok (.invokespecial 3, 3) := by decide +kernel
theorem dX5_init_4 : decode cX5_init 4 = .ok (.aload_n 0, 1) := by decide +kernel
theorem dX5_init_5 : decode cX5_init 5 = .ok (.iconst 4, 1) := by decide +kernel
theorem dX5_init_6 : decode cX5_init 6 = .ok (.newarray .int, 2) := by decide +kernel
theorem dX5_init_8 : decode cX5_init 8 = .ok (.putfield 9, 3) := by decide +kernel
theorem dX5_init_11 : decode cX5_init 11 = .ok (.aload_n 0, 1) := by decide +kernel
theorem dX5_init_12 : decode cX5_init 12 = .ok (.bipush 8, 2) := by decide +kernel
theorem dX5_init_14 : decode cX5_init 14 = .ok (.anewarray 15, 3) := by decide +kernel
theorem dX5_init_17 : decode cX5_init 17 = .ok (.putfield 17, 3) := by decide +kernel
theorem dX5_init_20 : decode cX5_init 20 = .ok (.iconst 0, 1) := by decide +kernel
theorem dX5_init_21 : decode cX5_init 21 = .ok (.istore_n 1, 1) := by decide +kernel
theorem dX5_init_22 : decode cX5_init 22 = .ok (.iload_n 1, 1) := by decide +kernel
theorem dX5_init_23 : decode cX5_init 23 = .ok (.bipush 8, 2) := by decide +kernel
theorem dX5_init_25 : decode cX5_init 25 = .ok (.if_icmp .ge 22, 3) := by decide +kernel
theorem dX5_init_28 : decode cX5_init 28 = .ok (.aload_n 0, 1) := by decide +kernel
theorem dX5_init_29 : decode cX5_init 29 = .ok (.getfield 17, 3) := by decide +kernel
theorem dX5_init_32 : decode cX5_init 32 = .ok (.iload_n 1, 1) := by decide +kernel
theorem dX5_init_33 : decode cX5_init 33 = .ok (.new 15, 3) := by decide +kernel
theorem dX5_init_36 : decode cX5_init 36 = .ok (.dup, 1) := by decide +kernel
theorem dX5_init_37 : decode cX5_init 37 = .ok (.invokespecial 21, 3) := by decide +kernel
theorem dX5_init_40 : decode cX5_init 40 = .ok (.aastore, 1) := by decide +kernel
theorem dX5_init_41 : decode cX5_init 41 = .ok (.iinc 1 1, 3) := by decide +kernel
theorem dX5_init_44 : decode cX5_init 44 = .ok (.goto (-22), 3) := by decide +kernel
theorem dX5_init_47 : decode cX5_init 47 = .ok (.aload_n 0, 1) := by decide +kernel
theorem dX5_init_48 : decode cX5_init 48 = .ok (.invokevirtual 22, 3) := by decide +kernel
theorem dX5_init_51 : decode cX5_init 51 = .ok (.return_, 1) := by decide +kernel
theorem dX5_clear_0 : decode cX5_clear 0 = .ok (.aload_n 0, 1) := by decide +kernel
theorem dX5_clear_1 : decode cX5_clear 1 = .ok (.iconst 0, 1) := by decide +kernel
theorem dX5_clear_2 : decode cX5_clear 2 = .ok (.putfield 25, 3) := by decide +kernel
theorem dX5_clear_5 : decode cX5_clear 5 = .ok (.aload_n 0, 1) := by decide +kernel
theorem dX5_clear_6 : decode cX5_clear 6 = .ok (.getfield 9, 3) := by decide +kernel
theorem dX5_clear_9 : decode cX5_clear 9 = .ok (.iconst 0, 1) := by decide +kernel
theorem dX5_clear_10 : decode cX5_clear 10 = .ok (.iconst 1, 1) := by decide +kernel
theorem dX5_clear_11 : decode cX5_clear 11 = .ok (.iastore, 1) := by decide +kernel
theorem dX5_clear_12 : decode cX5_clear 12 = .ok (.aload_n 0, 1) := by decide +kernel
theorem dX5_clear_13 : decode cX5_clear 13 = .ok (.getfield 9, 3) := by decide +kernel
theorem dX5_clear_16 : decode cX5_clear 16 = .ok (.iconst 1, 1) := by decide +kernel
theorem dX5_clear_17 : decode cX5_clear 17 = .ok (.iconst 5, 1) := by decide +kernel
theorem dX5_clear_18 : decode cX5_clear 18 = .ok (.iastore, 1) := by decide +kernel
theorem dX5_clear_19 : decode cX5_clear 19 = .ok (.aload_n 0, 1) := by decide +kernel
theorem dX5_clear_20 : decode cX5_clear 20 = .ok (.getfield 9, 3) := by decide +kernel
theorem dX5_clear_23 : decode cX5_clear 23 = .ok (.iconst 2, 1) := by decide +kernel
theorem dX5_clear_24 : decode cX5_clear 24 = .ok (.iconst 3, 1) := by decide +kernel
theorem dX5_clear_25 : decode cX5_clear 25 = .ok (.iastore, 1) := by decide +kernel
theorem dX5_clear_26 : decode cX5_clear 26 = .ok (.aload_n 0, 1) := by decide +kernel
theorem dX5_clear_27 : decode cX5_clear 27 = .ok (.getfield 9, 3) := by decide +kernel
theorem dX5_clear_30 : decode cX5_clear 30 = .ok (.iconst 3, 1) := by decide +kernel
theorem dX5_clear_31 : decode cX5_clear 31 = .ok (.bipush 9, 2) := by decide +kernel
theorem dX5_clear_33 : decode cX5_clear 33 = .ok (.iastore, 1) := by decide +kernel
theorem dX5_clear_34 : decode cX5_clear 34 = .ok (.aload_n 0, 1) := by decide +kernel
theorem dX5_clear_35 : decode cX5_clear 35 = .ok (.iconst 1, 1) := by decide +kernel
theorem dX5_clear_36 : decode cX5_clear 36 = .ok (.putfield 29, 3) := by decide +kernel
theorem dX5_clear_39 : decode cX5_clear 39 = .ok (.aload_n 0, 1) := by decide +kernel
theorem dX5_clear_40 : decode cX5_clear 40 = .ok (.iconst 3, 1) := by decide +kernel
theorem dX5_clear_41 : decode cX5_clear 41 = .ok (.putfield 32, 3) := by decide +kernel
theorem dX5_clear_44 : decode cX5_clear 44 = .ok (.aload_n 0, 1) := by decide +kernel
theorem dX5_clear_45 : decode cX5_clear 45 = .ok (.bipush 99, 2) := by decide +kernel
theorem dX5_clear_47 : decode cX5_clear 47 = .ok (.putfield 35, 3) := by decide +kernel
theorem dX5_clear_50 : decode cX5_clear 50 = .ok (.aload_n 0, 1) := by decide +kernel
theorem dX5_clear_51 : decode cX5_clear 51 = .ok (.iconst 0, 1) := by decide +kernel
theorem dX5_clear_52 : decode cX5_clear 52 = .ok (.putfield 38, 3) := by decide +kernel
theorem dX5_clear_55 : decode cX5_clear 55 = .ok (.aload_n 0, 1) := by decide +kernel
theorem dX5_clear_56 : decode cX5_clear 56 = .ok (.iconst 0, 1) := by decide +kernel
theorem dX5_clear_57 : decode cX5_clear 57 = .ok (.putfield 41, 3) := by decide +kernel
theorem dX5_clear_60 : decode cX5_clear 60 = .ok (.aload_n 0, 1) := by decide +kernel
theorem dX5_clear_61 : decode cX5_clear 61 = .ok (.iconst 0, 1) := by decide +kernel
theorem dX5_clear_62 : decode cX5_clear 62 = .ok (.putfield 44, 3) := by decide +kernel
theorem dX5_clear_65 : decode cX5_clear 65 = .ok (.aload_n 0, 1) := by decide +kernel
theorem dX5_clear_66 : decode cX5_clear 66 = .ok (.iconst 0, 1) := by decide +kernel
theorem dX5_clear_67 : decode cX5_clear 67 = .ok (.putfield 47, 3) := by decide +kernel
theorem dX5_clear_70 : decode cX5_clear 70 = .ok (.aload_n 0, 1) := by decide +kernel
theorem dX5_clear_71 : decode cX5_clear 71 = .ok (.iconst 0, 1) := by decide +kernel
theorem dX5_clear_72 : decode cX5_clear 72 = .ok (.putfield 50, 3) := by decide +kernel
theorem dX5_clear_75 : decode cX5_clear 75 = .ok (.return_, 1) := by decide +kernel
theorem dX5_copyFrom_0 : decode cX5_copyFrom 0 = .ok (.aload_n 0, 1) := by decide +kernel
theorem dX5_copyFrom_1 : decode cX5_copyFrom 1 = .ok (.aload_n 1, 1) := by decide +kernel
theorem dX5_copyFrom_2 : decode cX5_copyFrom 2 = .ok (.getfield 25, 3) := by decide +kernel
theorem dX5_copyFrom_5 : decode cX5_copyFrom 5 = .ok (.putfield 25, 3) := by decide +kernel
theorem dX5_copyFrom_8 : decode cX5_copyFrom 8 = .ok (.aload_n 0, 1) := by decide +kernel
theorem dX5_copyFrom_9 : decode cX5_copyFrom 9 = .ok (.aload_n 1, 1) := by decide +kernel
theorem dX5_copyFrom_10 : decode cX5_copyFrom 10 = .ok (.getfield 32, 3) := by decide +kernel
theorem dX5_copyFrom_13 : decode cX5_copyFrom 13 = .ok (.putfield 32, 3) := by decide +kernel
theorem dX5_copyFrom_16 : decode cX5_copyFrom 16 = .ok (.aload_n 0, 1) := by decide +kernel
theorem dX5_copyFrom_17 : decode cX5_copyFrom 17 = .ok (.aload_n 1, 1) := by decide +kernel
theorem dX5_copyFrom_18 : decode cX5_copyFrom 18 = .ok (.getfield 35, 3) := by decide +kernel
theorem dX5_copyFrom_21 : decode cX5_copyFrom 21 = .ok (.putfield 35, 3) := by decide +kernel
theorem dX5_copyFrom_24 : decode cX5_copyFrom 24 = .ok (.aload_n 0, 1) := by decide +kernel
theorem dX5_copyFrom_25 : decode cX5_copyFrom 25 = .ok (.aload_n 1, 1) := by decide +kernel
theorem dX5_copyFrom_26 : decode cX5_copyFrom 26 = .ok (.getfield 38, 3) := by decide +kernel
theorem dX5_copyFrom_29 : decode cX5_copyFrom 29 = .ok (.putfield 38, 3) := by decide +kernel
theorem dX5_copyFrom_32 : decode cX5_copyFrom 32 = .ok (.aload_n 0, 1) := by decide +kernel
theorem dX5_copyFrom_33 : decode cX5_copyFrom 33 = .ok (.aload_n 1, 1) := by decide +kernel
theorem dX5_copyFrom_34 : decode cX5_copyFrom 34 = .ok (.getfield 29, 3) := by decide +kernel
theorem dX5_copyFrom_37 : decode cX5_copyFrom 37 = .ok (.putfield 29, 3) := by decide +kernel
theorem dX5_copyFrom_40 : decode cX5_copyFrom 40 = .ok (.aload_n 0, 1) := by decide +kernel
theorem dX5_copyFrom_41 : decode cX5_copyFrom 41 = .ok (.aload_n 1, 1) := by decide +kernel
theorem dX5_copyFrom_42 : decode cX5_copyFrom 42 = .ok (.getfield 41, 3) := by decide +kernel
theorem dX5_copyFrom_45 : decode cX5_copyFrom 45 = .ok (.putfield 41, 3) := by decide +kernel
theorem dX5_copyFrom_48 : decode cX5_copyFrom 48 = .ok (.aload_n 0, 1) := by decide +kernel
theorem dX5_copyFrom_49 : decode cX5_copyFrom 49 = .ok (.aload_n 1, 1) := by decide +kernel
theorem dX5_copyFrom_50 : decode cX5_copyFrom 50 = .ok (.getfield 44, 3) := by decide +kernel
theorem dX5_copyFrom_53 : decode cX5_copyFrom 53 = .ok (.putfield 44, 3) := by decide +kernel
theorem dX5_copyFrom_56 : decode cX5_copyFrom 56 = .ok (.aload_n 0, 1) := by decide +kernel
theorem dX5_copyFrom_57 : decode cX5_copyFrom 57 = .ok (.aload_n 1, 1) := by decide +kernel
theorem dX5_copyFrom_58 : decode cX5_copyFrom 58 = .ok (.getfield 47, 3) := by decide +kernel
theorem dX5_copyFrom_61 : decode cX5_copyFrom 61 = .ok (.putfield 47, 3) := by decide +kernel
theorem dX5_copyFrom_64 : decode cX5_copyFrom 64 = .ok (.aload_n 0, 1) := by decide +kernel
theorem dX5_copyFrom_65 : decode cX5_copyFrom 65 = .ok (.aload_n 1, 1) := by decide +kernel
theorem dX5_copyFrom_66 : decode cX5_copyFrom 66 = .ok (.getfield 50, 3) := by decide +kernel
theorem dX5_copyFrom_69 : decode cX5_copyFrom 69 = .ok (.putfield 50, 3) := by decide +kernel
theorem dX5_copyFrom_72 : decode cX5_copyFrom 72 = .ok (.iconst 0, 1) := by decide +kernel
theorem dX5_copyFrom_73 : decode cX5_copyFrom 73 = .ok (.istore_n 2, 1) := by decide +kernel
theorem dX5_copyFrom_74 : decode cX5_copyFrom 74 = .ok (.iload_n 2, 1) := by decide +kernel
theorem dX5_copyFrom_75 : decode cX5_copyFrom 75 = .ok (.iconst 4, 1) := by decide +kernel
theorem dX5_copyFrom_76 : decode cX5_copyFrom 76 = .ok (.if_icmp .ge 21, 3) := by decide +kernel
theorem dX5_copyFrom_79 : decode cX5_copyFrom 79 = .ok (.aload_n 0, 1) := by decide +kernel
theorem dX5_copyFrom_80 : decode cX5_copyFrom 80 = .ok (.getfield 9, 3) := by decide +kernel
theorem dX5_copyFrom_83 : decode cX5_copyFrom 83 = .ok (.iload_n 2, 1) := by decide +kernel
theorem dX5_copyFrom_84 : decode cX5_copyFrom 84 = .ok (.aload_n 1, 1) := by decide +kernel
theorem dX5_copyFrom_85 : decode cX5_copyFrom 85 = .ok (.getfield 9, 3) := by decide +kernel
theorem dX5_copyFrom_88 : decode cX5_copyFrom 88 = .ok (.iload_n 2, 1) := by decide +kernel
theorem dX5_copyFrom_89 : decode cX5_copyFrom 89 = .ok (.iaload, 1) := by decide +kernel
theorem dX5_copyFrom_90 : decode cX5_copyFrom 90 = .ok (.iastore, 1) := by decide +kernel
theorem dX5_copyFrom_91 : decode cX5_copyFrom 91 = .ok (.iinc 2 1, 3) := by decide +kernel
theorem dX5_copyFrom_94 : decode cX5_copyFrom 94 = .ok (.goto (-20), 3) := by decide +kernel
theorem dX5_copyFrom_97 : decode cX5_copyFrom 97 = .ok (.iconst 0, 1) := by decide +kernel
theorem dX5_copyFrom_98 : decode cX5_copyFrom 98 = .ok (.istore_n 2, 1) := by decide +kernel
theorem dX5_copyFrom_99 : decode cX5_copyFrom 99 = .ok (.iload_n 2, 1) := by decide +kernel
theorem dX5_copyFrom_100 : decode cX5_copyFrom 100 = .ok (.aload_n 0, 1) := by decide +kernel
theorem dX5_copyFrom_101 : decode cX5_copyFrom 101 = .ok (.getfield 25, 3) := by decide +kernel
theorem dX5_copyFrom_104 : decode cX5_copyFrom 104 = .ok (.if_icmp .ge 24, 3) := by decide +kernel
theorem dX5_copyFrom_107 : decode cX5_copyFrom 107 = .ok (.aload_n 0, 1) := by decide +kernel
theorem dX5_copyFrom_108 : decode cX5_copyFrom 108 = .ok (.getfield 17, 3) := by decide +kernel
theorem dX5_copyFrom_111 : decode cX5_copyFrom 111 = .ok (.iload_n 2, 1) := by decide +kernel
theorem dX5_copyFrom_112 : decode cX5_copyFrom 112 = .ok (.aaload, 1) := by decide +kernel
theorem dX5_copyFrom_113 : decode cX5_copyFrom 113 = .ok (.aload_n 1, 1) := by decide +kernel
theorem dX5_copyFrom_114 : decode cX5_copyFrom 114 = .ok (.getfield 17, 3) := by decide +kernel
theorem dX5_copyFrom_117 : decode cX5_copyFrom 117 = .ok (.iload_n 2, 1) := by decide +kernel
theorem dX5_copyFrom_118 : decode cX5_copyFrom 118 = .ok (.aaload, 1) := by decide +kernel
theorem dX5_copyFrom_119 : decode cX5_copyFrom 119 = .ok (.invokevirtual 53, 3) := by decide +kernel
theorem dX5_copyFrom_122 : decode cX5_copyFrom 122 = .ok (.iinc 2 1, 3) := by decide +kernel
theorem dX5_copyFrom_125 : decode cX5_copyFrom 125 = .ok (.goto (-26), 3) := by decide +kernel
theorem dX5_copyFrom_128 : decode cX5_copyFrom 128 = .ok (.return_, 1) := by decide +kernel
theorem dX5_find_0 : decode cX5_find 0 = .ok (.iconst 0, 1) := by decide +kernel
theorem dX5_find_1 : decode cX5_find 1 = .ok (.istore_n 3, 1) := by decide +kernel
theorem dX5_find_2 : decode cX5_find 2 = .ok (.iload_n 3, 1) := by decide +kernel
theorem dX5_find_3 : decode cX5_find 3 = .ok (.aload_n 0, 1) := by decide +kernel
theorem dX5_find_4 : decode cX5_find 4 = .ok (.getfield 25, 3) := by decide +kernel
theorem dX5_find_7 : decode cX5_find 7 = .ok (.if_icmp .ge 25, 3) := by decide +kernel
theorem dX5_find_10 : decode cX5_find 10 = .ok (.aload_n 0, 1) := by decide +kernel
theorem dX5_find_11 : decode cX5_find 11 = .ok (.getfield 17, 3) := by decide +kernel
theorem dX5_find_14 : decode cX5_find 14 = .ok (.iload_n 3, 1) := by decide +kernel
theorem dX5_find_15 : decode cX5_find 15 = .ok (.aaload, 1) := by decide +kernel
theorem dX5_find_16 : decode cX5_find 16 = .ok (.getfield 57, 3) := by decide +kernel
theorem dX5_find_19 : decode cX5_find 19 = .ok (.lload_n 1, 1) := by decide +kernel
theorem dX5_find_20 : decode cX5_find 20 = .ok (.lcmp, 1) := by decide +kernel
theorem dX5_find_21 : decode cX5_find 21 = .ok (.ifCond .ne 5, 3) := by decide +kernel
theorem dX5_find_24 : decode cX5_find 24 = .ok (.iload_n 3, 1) := by decide +kernel
theorem dX5_find_25 : decode cX5_find 25 = .ok (.ireturn, 1) := by decide +kernel
theorem dX5_find_26 : decode cX5_find 26 = .ok (.iinc 3 1, 3) := by decide +kernel
theorem dX5_find_29 : decode cX5_find 29 = .ok (.goto (-27), 3) := by decide +kernel
theorem dX5_find_32 : decode cX5_find 32 = .ok (.iconst (-1), 1) := by decide +kernel
theorem dX5_find_33 : decode cX5_find 33 = .ok (.ireturn, 1) := by decide +kernel
theorem dX5_nearPairs_0 : decode cX5_nearPairs 0 = .ok (.iconst 0, 1) := by decide +kernel
theorem dX5_nearPairs_1 : decode cX5_nearPairs 1 = .ok (.istore_n 1, 1) := by decide +kernel
theorem dX5_nearPairs_2 : decode cX5_nearPairs 2 = .ok (.iconst 0, 1) := by decide +kernel
theorem dX5_nearPairs_3 : decode cX5_nearPairs 3 = .ok (.istore_n 2, 1) := by decide +kernel
theorem dX5_nearPairs_4 : decode cX5_nearPairs 4 = .ok (.iload_n 2, 1) := by decide +kernel
theorem dX5_nearPairs_5 : decode cX5_nearPairs 5 = .ok (.aload_n 0, 1) := by decide +kernel
theorem dX5_nearPairs_6 : decode cX5_nearPairs 6 = .ok (.getfield 25, 3) := by decide +kernel
theorem dX5_nearPairs_9 : decode cX5_nearPairs 9 = .ok (.if_icmp .ge 24, 3) := by decide +kernel
theorem dX5_nearPairs_12 : decode cX5_nearPairs 12 = .ok (.iload_n 1, 1) := by decide +kernel
theorem dX5_nearPairs_13 : decode cX5_nearPairs 13 = .ok (.aload_n 0, 1) := by decide +kernel
theorem dX5_nearPairs_14 : decode cX5_nearPairs 14 = .ok (.getfield 17, 3) := by decide +kernel
theorem dX5_nearPairs_17 : decode cX5_nearPairs 17 = .ok (.iload_n 2, 1) := by decide +kernel
theorem dX5_nearPairs_18 : decode cX5_nearPairs 18 = .ok (.aaload, 1) := by decide +kernel
theorem dX5_nearPairs_19 : decode cX5_nearPairs 19 = .ok (.getfield 61, 3) := by decide +kernel
theorem dX5_nearPairs_22 : decode cX5_nearPairs 22 = .ok (.invokestatic 64, 3) := by decide +kernel
theorem dX5_nearPairs_25 : decode cX5_nearPairs 25 = .ok (.iadd, 1) := by decide +kernel
theorem dX5_nearPairs_26 : decode cX5_nearPairs 26 = .ok (.istore_n 1, 1) := by decide +kernel
theorem dX5_nearPairs_27 : decode cX5_nearPairs 27 = .ok (.iinc 2 1, 3) := by decide +kernel
theorem dX5_nearPairs_30 : decode cX5_nearPairs 30 = .ok (.goto (-26), 3) := by decide +kernel
theorem dX5_nearPairs_33 : decode cX5_nearPairs 33 = .ok (.iload_n 1, 1) := by decide +kernel
theorem dX5_nearPairs_34 : decode cX5_nearPairs 34 = .ok (.ireturn, 1) := by decide +kernel
theorem dX5_inState_0 : decode cX5_inState 0 = .ok (.iconst 0, 1) := by decide +kernel
theorem dX5_inState_1 : decode cX5_inState 1 = .ok (.istore_n 2, 1) := by decide +kernel
theorem dX5_inState_2 : decode cX5_inState 2 = .ok (.iconst 0, 1) := by decide +kernel
theorem dX5_inState_3 : decode cX5_inState 3 = .ok (.istore_n 3, 1) := by decide +kernel
theorem dX5_inState_4 : decode cX5_inState 4 = .ok (.iload_n 3, 1) := by decide +kernel
theorem dX5_inState_5 : decode cX5_inState 5 = .ok (.aload_n 0, 1) := by decide +kernel
theorem dX5_inState_6 : decode cX5_inState 6 = .ok (.getfield 25, 3) := by decide +kernel
theorem dX5_inState_9 : decode cX5_inState 9 = .ok (.if_icmp .ge 28, 3) := by decide +kernel
theorem dX5_inState_12 : decode cX5_inState 12 = .ok (.aload_n 0, 1) := by decide +kernel
theorem dX5_inState_13 : decode cX5_inState 13 = .ok (.getfield 17, 3) := by decide +kernel
theorem dX5_inState_16 : decode cX5_inState 16 = .ok (.iload_n 3, 1) := by decide +kernel
theorem dX5_inState_17 : decode cX5_inState 17 = .ok (.aaload, 1) := by decide +kernel
theorem dX5_inState_18 : decode cX5_inState 18 = .ok (.getfield 70, 3) := by decide +kernel
theorem dX5_inState_21 : decode cX5_inState 21 = .ok (.iload_n 1, 1) := by decide +kernel
theorem dX5_inState_22 : decode cX5_inState 22 = .ok (.if_icmp .ne 9, 3) := by decide +kernel
theorem dX5_inState_25 : decode cX5_inState 25 = .ok (.iload_n 2, 1) := by decide +kernel
theorem dX5_inState_26 : decode cX5_inState 26 = .ok (.iconst 1, 1) := by decide +kernel
theorem dX5_inState_27 : decode cX5_inState 27 = .ok (.iload_n 3, 1) := by decide +kernel
theorem dX5_inState_28 : decode cX5_inState 28 = .ok (.ishl, 1) := by decide +kernel
theorem dX5_inState_29 : decode cX5_inState 29 = .ok (.ior, 1) := by decide +kernel
theorem dX5_inState_30 : decode cX5_inState 30 = .ok (.istore_n 2, 1) := by decide +kernel
theorem dX5_inState_31 : decode cX5_inState 31 = .ok (.iinc 3 1, 3) := by decide +kernel
theorem dX5_inState_34 : decode cX5_inState 34 = .ok (.goto (-30), 3) := by decide +kernel
theorem dX5_inState_37 : decode cX5_inState 37 = .ok (.iload_n 2, 1) := by decide +kernel
theorem dX5_inState_38 : decode cX5_inState 38 = .ok (.ireturn, 1) := by decide +kernel
theorem dX5_outCount_0 : decode cX5_outCount 0 = .ok (.aload_n 0, 1) := by decide +kernel
theorem dX5_outCount_1 : decode cX5_outCount 1 = .ok (.iconst 4, 1) := by decide +kernel
theorem dX5_outCount_2 : decode cX5_outCount 2 = .ok (.invokevirtual 73, 3) := by decide +kernel
theorem dX5_outCount_5 : decode cX5_outCount 5 = .ok (.invokestatic 64, 3) := by decide +kernel
theorem dX5_outCount_8 : decode cX5_outCount 8 = .ok (.ireturn, 1) := by decide +kernel
theorem dX5_knownTo_0 : decode cX5_knownTo 0 = .ok (.iconst 0, 1) := by decide +kernel
theorem dX5_knownTo_1 : decode cX5_knownTo 1 = .ok (.istore_n 2, 1) := by decide +kernel
theorem dX5_knownTo_2 : decode cX5_knownTo 2 = .ok (.iconst 0, 1) := by decide +kernel
theorem dX5_knownTo_3 : decode cX5_knownTo 3 = .ok (.istore_n 3, 1) := by decide +kernel
theorem dX5_knownTo_4 : decode cX5_knownTo 4 = .ok (.iload_n 3, 1) := by decide +kernel
theorem dX5_knownTo_5 : decode cX5_knownTo 5 = .ok (.aload_n 0, 1) := by decide +kernel
theorem dX5_knownTo_6 : decode cX5_knownTo 6 = .ok (.getfield 25, 3) := by decide +kernel
theorem dX5_knownTo_9 : decode cX5_knownTo 9 = .ok (.if_icmp .ge 43, 3) := by decide +kernel
theorem dX5_knownTo_12 : decode cX5_knownTo 12 = .ok (.aload_n 1, 1) := by decide +kernel
theorem dX5_knownTo_13 : decode cX5_knownTo 13 = .ok (.getfield 76, 3) := by decide +kernel
theorem dX5_knownTo_16 : decode cX5_knownTo 16 = .ok (.iload_n 3, 1) := by decide +kernel
theorem dX5_knownTo_17 : decode cX5_knownTo 17 = .ok (.iaload, 1) := by decide +kernel
theorem dX5_knownTo_18 : decode cX5_knownTo 18 = .ok (.istore 4, 2) := by decide +kernel
theorem dX5_knownTo_20 : decode cX5_knownTo 20 = .ok (.iload 4, 2) := by decide +kernel
theorem dX5_knownTo_22 : decode cX5_knownTo 22 = .ok (.iconst (-1), 1) := by decide +kernel
theorem dX5_knownTo_23 : decode cX5_knownTo 23 = .ok (.if_icmp .eq 23, 3) := by decide +kernel
theorem dX5_knownTo_26 : decode cX5_knownTo 26 = .ok (.aload_n 0, 1) := by decide +kernel
theorem dX5_knownTo_27 : decode cX5_knownTo 27 = .ok (.getfield 38, 3) := by decide +kernel
theorem dX5_knownTo_30 : decode cX5_knownTo 30 = .ok (.iload 4, 2) := by decide +kernel
theorem dX5_knownTo_32 : decode cX5_knownTo 32 = .ok (.isub, 1) := by decide +kernel
theorem dX5_knownTo_33 : decode cX5_knownTo 33 = .ok (.aload_n 0, 1) := by decide +kernel
theorem dX5_knownTo_34 : decode cX5_knownTo 34 = .ok (.getfield 35, 3) := by decide +kernel
theorem dX5_knownTo_37 : decode cX5_knownTo 37 = .ok (.if_icmp .gt 9, 3) := by decide +kernel
theorem dX5_knownTo_40 : decode cX5_knownTo 40 = .ok (.iload_n 2, 1) := by decide +kernel
theorem dX5_knownTo_41 : decode cX5_knownTo 41 = .ok (.iconst 1, 1) := by decide +kernel
theorem dX5_knownTo_42 : decode cX5_knownTo 42 = .ok (.iload_n 3, 1) := by decide +kernel
theorem dX5_knownTo_43 : decode cX5_knownTo 43 = .ok (.ishl, 1) := by decide +kernel
theorem dX5_knownTo_44 : decode cX5_knownTo 44 = .ok (.ior, 1) := by decide +kernel
theorem dX5_knownTo_45 : decode cX5_knownTo 45 = .ok (.istore_n 2, 1) := by decide +kernel
theorem dX5_knownTo_46 : decode cX5_knownTo 46 = .ok (.iinc 3 1, 3) := by decide +kernel
theorem dX5_knownTo_49 : decode cX5_knownTo 49 = .ok (.goto (-45), 3) := by decide +kernel
theorem dX5_knownTo_52 : decode cX5_knownTo 52 = .ok (.iload_n 2, 1) := by decide +kernel
theorem dX5_knownTo_53 : decode cX5_knownTo 53 = .ok (.ireturn, 1) := by decide +kernel
theorem dX5_isAllKnown_0 : decode cX5_isAllKnown 0 = .ok (.iconst 0, 1) := by decide +kernel
theorem dX5_isAllKnown_1 : decode cX5_isAllKnown 1 = .ok (.istore_n 1, 1) := by decide +kernel
theorem dX5_isAllKnown_2 : decode cX5_isAllKnown 2 = .ok (.iload_n 1, 1) := by decide +kernel
theorem dX5_isAllKnown_3 : decode cX5_isAllKnown 3 = .ok (.aload_n 0, 1) := by decide +kernel
theorem dX5_isAllKnown_4 : decode cX5_isAllKnown 4 = .ok (.getfield 25, 3) := by decide +kernel
theorem dX5_isAllKnown_7 : decode cX5_isAllKnown 7 = .ok (.if_icmp .ge 36, 3) := by decide +kernel
theorem dX5_isAllKnown_10 : decode cX5_isAllKnown 10 = .ok (.aload_n 0, 1) := by decide +kernel
theorem dX5_isAllKnown_11 : decode cX5_isAllKnown 11 = .ok (.getfield 17, 3) := by decide +kernel
theorem dX5_isAllKnown_14 : decode cX5_isAllKnown 14 = .ok (.iload_n 1, 1) := by decide +kernel
theorem dX5_isAllKnown_15 : decode cX5_isAllKnown 15 = .ok (.aaload, 1) := by decide +kernel
theorem dX5_isAllKnown_16 : decode cX5_isAllKnown 16 = .ok (.getfield 61, 3) := by decide +kernel
theorem dX5_isAllKnown_19 : decode cX5_isAllKnown 19 = .ok (.aload_n 0, 1) := by decide +kernel
theorem dX5_isAllKnown_20 : decode cX5_isAllKnown 20 = .ok (.aload_n 0, 1) := by decide +kernel
theorem dX5_isAllKnown_21 : decode cX5_isAllKnown 21 = .ok (.getfield 17, 3) := by decide +kernel
theorem dX5_isAllKnown_24 : decode cX5_isAllKnown 24 = .ok (.iload_n 1, 1) := by decide +kernel
theorem dX5_isAllKnown_25 : decode cX5_isAllKnown 25 = .ok (.aaload, 1) := by decide +kernel
theorem dX5_isAllKnown_26 : decode cX5_isAllKnown 26 = .ok (.invokevirtual 79, 3) := by decide +kernel
theorem dX5_isAllKnown_29 : decode cX5_isAllKnown 29 = .ok (.iconst (-1), 1) := by decide +kernel
theorem dX5_isAllKnown_30 : decode cX5_isAllKnown 30 = .ok (.ixor, 1) := by decide +kernel
theorem dX5_isAllKnown_31 : decode cX5_isAllKnown 31 = .ok (.iand, 1) := by decide +kernel
theorem dX5_isAllKnown_32 : decode cX5_isAllKnown 32 = .ok (.ifCond .eq 5, 3) := by decide +kernel
theorem dX5_isAllKnown_35 : decode cX5_isAllKnown 35 = .ok (.iconst 0, 1) := by decide +kernel
theorem dX5_isAllKnown_36 : decode cX5_isAllKnown 36 = .ok (.ireturn, 1) := by decide +kernel
theorem dX5_isAllKnown_37 : decode cX5_isAllKnown 37 = .ok (.iinc 1 1, 3) := by decide +kernel
theorem dX5_isAllKnown_40 : decode cX5_isAllKnown 40 = .ok (.goto (-38), 3) := by decide +kernel
theorem dX5_isAllKnown_43 : decode cX5_isAllKnown 43 = .ok (.iconst 1, 1) := by decide +kernel
theorem dX5_isAllKnown_44 : decode cX5_isAllKnown 44 = .ok (.ireturn, 1) := by decide +kernel
theorem dX5_withNear_0 : decode cX5_withNear 0 = .ok (.iload_n 1, 1) := by decide +kernel
theorem dX5_withNear_1 : decode cX5_withNear 1 = .ok (.istore_n 2, 1) := by decide +kernel
theorem dX5_withNear_2 : decode cX5_withNear 2 = .ok (.iconst 0, 1) := by decide +kernel
theorem dX5_withNear_3 : decode cX5_withNear 3 = .ok (.istore_n 3, 1) := by decide +kernel
theorem dX5_withNear_4 : decode cX5_withNear 4 = .ok (.iload_n 3, 1) := by decide +kernel
theorem dX5_withNear_5 : decode cX5_withNear 5 = .ok (.aload_n 0, 1) := by decide +kernel
theorem dX5_withNear_6 : decode cX5_withNear 6 = .ok (.getfield 25, 3) := by decide +kernel
theorem dX5_withNear_9 : decode cX5_withNear 9 = .ok (.if_icmp .ge 29, 3) := by decide +kernel
theorem dX5_withNear_12 : decode cX5_withNear 12 = .ok (.iload_n 1, 1) := by decide +kernel
theorem dX5_withNear_13 : decode cX5_withNear 13 = .ok (.iload_n 3, 1) := by decide +kernel
theorem dX5_withNear_14 : decode cX5_withNear 14 = .ok (.invokestatic 83, 3) := by decide +kernel
theorem dX5_withNear_17 : decode cX5_withNear 17 = .ok (.ifCond .eq 15, 3) := by decide +kernel
theorem dX5_withNear_20 : decode cX5_withNear 20 = .ok (.iload_n 2, 1) := by decide +kernel
theorem dX5_withNear_21 : decode cX5_withNear 21 = .ok (.aload_n 0, 1) := by decide +kernel
theorem dX5_withNear_22 : decode cX5_withNear 22 = .ok (.getfield 17, 3) := by decide +kernel
theorem dX5_withNear_25 : decode cX5_withNear 25 = .ok (.iload_n 3, 1) := by decide +kernel
theorem dX5_withNear_26 : decode cX5_withNear 26 = .ok (.aaload, 1) := by decide +kernel
theorem dX5_withNear_27 : decode cX5_withNear 27 = .ok (.getfield 61, 3) := by decide +kernel
theorem dX5_withNear_30 : decode cX5_withNear 30 = .ok (.ior, 1) := by decide +kernel
theorem dX5_withNear_31 : decode cX5_withNear 31 = .ok (.istore_n 2, 1) := by decide +kernel
theorem dX5_withNear_32 : decode cX5_withNear 32 = .ok (.iinc 3 1, 3) := by decide +kernel
theorem dX5_withNear_35 : decode cX5_withNear 35 = .ok (.goto (-31), 3) := by decide +kernel
theorem dX5_withNear_38 : decode cX5_withNear 38 = .ok (.iload_n 2, 1) := by decide +kernel
theorem dX5_withNear_39 : decode cX5_withNear 39 = .ok (.ireturn, 1) := by decide +kernel
theorem dX5_switchNear_0 : decode cX5_switchNear 0 = .ok (.aload_n 0, 1) := by decide +kernel
theorem dX5_switchNear_1 : decode cX5_switchNear 1 = .ok (.getfield 17, 3) := by decide +kernel
theorem dX5_switchNear_4 : decode cX5_switchNear 4 = .ok (.iload_n 1, 1) := by decide +kernel
theorem dX5_switchNear_5 : decode cX5_switchNear 5 = .ok (.aaload, 1) := by decide +kernel
theorem dX5_switchNear_6 : decode cX5_switchNear 6 = .ok (.dup, 1) := by decide +kernel
theorem dX5_switchNear_7 : decode cX5_switchNear 7 = .ok (.getfield 61, 3) := by decide +kernel
theorem dX5_switchNear_10 : decode cX5_switchNear 10 = .ok (.iconst 1, 1) := by decide +kernel
theorem dX5_switchNear_11 : decode cX5_switchNear 11 = .ok (.iload_n 2, 1) := by decide +kernel
theorem dX5_switchNear_12 : decode cX5_switchNear 12 = .ok (.ishl, 1) := by decide +kernel
theorem dX5_switchNear_13 : decode cX5_switchNear 13 = .ok (.ixor, 1) := by decide +kernel
theorem dX5_switchNear_14 : decode cX5_switchNear 14 = .ok (.putfield 61, 3) := by decide +kernel
theorem dX5_switchNear_17 : decode cX5_switchNear 17 = .ok (.aload_n 0, 1) := by decide +kernel
theorem dX5_switchNear_18 : decode cX5_switchNear 18 = .ok (.getfield 17, 3) := by decide +kernel
theorem dX5_switchNear_21 : decode cX5_switchNear 21 = .ok (.iload_n 2, 1) := by decide +kernel
theorem dX5_switchNear_22 : decode cX5_switchNear 22 = .ok (.aaload, 1) := by decide +kernel
theorem dX5_switchNear_23 : decode cX5_switchNear 23 = .ok (.dup, 1) := by decide +kernel
theorem dX5_switchNear_24 : decode cX5_switchNear 24 = .ok (.getfield 61, 3) := by decide +kernel
theorem dX5_switchNear_27 : decode cX5_switchNear 27 = .ok (.iconst 1, 1) := by decide +kernel
theorem dX5_switchNear_28 : decode cX5_switchNear 28 = .ok (.iload_n 1, 1) := by decide +kernel
theorem dX5_switchNear_29 : decode cX5_switchNear 29 = .ok (.ishl, 1) := by decide +kernel
theorem dX5_switchNear_30 : decode cX5_switchNear 30 = .ok (.ixor, 1) := by decide +kernel
theorem dX5_switchNear_31 : decode cX5_switchNear 31 = .ok (.putfield 61, 3) := by decide +kernel
theorem dX5_switchNear_34 : decode cX5_switchNear 34 = .ok (.return_, 1) := by decide +kernel
theorem dX5_mayPass_0 : decode cX5_mayPass 0 = .ok (.iload_n 1, 1) := by decide +kernel
theorem dX5_mayPass_1 : decode cX5_mayPass 1 = .ok (.iconst 1, 1) := by decide +kernel
theorem dX5_mayPass_2 : decode cX5_mayPass 2 = .ok (.if_icmp .lt 24, 3) := by decide +kernel
theorem dX5_mayPass_5 : decode cX5_mayPass 5 = .ok (.iload_n 1, 1) := by decide +kernel
theorem dX5_mayPass_6 : decode cX5_mayPass 6 = .ok (.bipush 99, 2) := by decide +kernel
theorem dX5_mayPass_8 : decode cX5_mayPass 8 = .ok (.if_icmp .gt 18, 3) := by decide +kernel
theorem dX5_mayPass_11 : decode cX5_mayPass 11 = .ok (.aload_n 0, 1) := by decide +kernel
theorem dX5_mayPass_12 : decode cX5_mayPass 12 = .ok (.getfield 38, 3) := by decide +kernel
theorem dX5_mayPass_15 : decode cX5_mayPass 15 = .ok (.iload_n 1, 1) := by decide +kernel
theorem dX5_mayPass_16 : decode cX5_mayPass 16 = .ok (.iadd, 1) := by decide +kernel
theorem dX5_mayPass_17 : decode cX5_mayPass 17 = .ok (.ldc 90, 2) := by decide +kernel
theorem dX5_mayPass_19 : decode cX5_mayPass 19 = .ok (.if_icmp .gt 7, 3) := by decide +kernel
theorem dX5_mayPass_22 : decode cX5_mayPass 22 = .ok (.iconst 1, 1) := by decide +kernel
theorem dX5_mayPass_23 : decode cX5_mayPass 23 = .ok (.goto 4, 3) := by decide +kernel
theorem dX5_mayPass_26 : decode cX5_mayPass 26 = .ok (.iconst 0, 1) := by decide +kernel
theorem dX5_mayPass_27 : decode cX5_mayPass 27 = .ok (.ireturn, 1) := by decide +kernel
theorem dX5_pass_0 : decode cX5_pass 0 = .ok (.iconst 0, 1) := by decide +kernel
theorem dX5_pass_1 : decode cX5_pass 1 = .ok (.istore_n 2, 1) := by decide +kernel
theorem dX5_pass_2 : decode cX5_pass 2 = .ok (.iload_n 2, 1) := by decide +kernel
theorem dX5_pass_3 : decode cX5_pass 3 = .ok (.iload_n 1, 1) := by decide +kernel
theorem dX5_pass_4 : decode cX5_pass 4 = .ok (.if_icmp .ge 35, 3) := by decide +kernel
theorem dX5_pass_7 : decode cX5_pass 7 = .ok (.aload_n 0, 1) := by decide +kernel
theorem dX5_pass_8 : decode cX5_pass 8 = .ok (.dup, 1) := by decide +kernel
theorem dX5_pass_9 : decode cX5_pass 9 = .ok (.getfield 38, 3) := by decide +kernel
theorem dX5_pass_12 : decode cX5_pass 12 = .ok (.iconst 1, 1) := by decide +kernel
theorem dX5_pass_13 : decode cX5_pass 13 = .ok (.iadd, 1) := by decide +kernel
theorem dX5_pass_14 : decode cX5_pass 14 = .ok (.putfield 38, 3) := by decide +kernel
theorem dX5_pass_17 : decode cX5_pass 17 = .ok (.aload_n 0, 1) := by decide +kernel
theorem dX5_pass_18 : decode cX5_pass 18 = .ok (.invokevirtual 91, 3) := by decide +kernel
theorem dX5_pass_21 : decode cX5_pass 21 = .ok (.aload_n 0, 1) := by decide +kernel
theorem dX5_pass_22 : decode cX5_pass 22 = .ok (.invokevirtual 94, 3) := by decide +kernel
theorem dX5_pass_25 : decode cX5_pass 25 = .ok (.aload_n 0, 1) := by decide +kernel
theorem dX5_pass_26 : decode cX5_pass 26 = .ok (.invokevirtual 97, 3) := by decide +kernel
theorem dX5_pass_29 : decode cX5_pass 29 = .ok (.aload_n 0, 1) := by decide +kernel
theorem dX5_pass_30 : decode cX5_pass 30 = .ok (.invokevirtual 100, 3) := by decide +kernel
theorem dX5_pass_33 : decode cX5_pass 33 = .ok (.iinc 2 1, 3) := by decide +kernel
theorem dX5_pass_36 : decode cX5_pass 36 = .ok (.goto (-34), 3) := by decide +kernel
theorem dX5_pass_39 : decode cX5_pass 39 = .ok (.return_, 1) := by decide +kernel
theorem dX5_changeStates_0 : decode cX5_changeStates 0 = .ok (.iconst 0, 1) := by decide +kernel
theorem dX5_changeStates_1 : decode cX5_changeStates 1 = .ok (.istore_n 1, 1) := by decide +kernel
theorem dX5_changeStates_2 : decode cX5_changeStates 2 = .ok (.iload_n 1, 1) := by decide +kernel
theorem dX5_changeStates_3 : decode cX5_changeStates 3 = .ok (.aload_n 0, 1) := by decide +kernel
theorem dX5_changeStates_4 : decode cX5_changeStates 4 = .ok (.getfield 25, 3) := by decide +kernel
theorem dX5_changeStates_7 : decode cX5_changeStates 7 = .ok (.if_icmp .ge 111, 3) := by decide +kernel
theorem dX5_changeStates_10 : decode cX5_changeStates 10 = .ok (.aload_n 0, 1) := by decide +kernel
theorem dX5_changeStates_11 : decode cX5_changeStates 11 = .ok (.getfield 17, 3) := by decide +kernel
theorem dX5_changeStates_14 : decode cX5_changeStates 14 = .ok (.iload_n 1, 1) := by decide +kernel
theorem dX5_changeStates_15 : decode cX5_changeStates 15 = .ok (.aaload, 1) := by decide +kernel
theorem dX5_changeStates_16 : decode cX5_changeStates 16 = .ok (.astore_n 2, 1) := by decide +kernel
theorem dX5_changeStates_17 : decode cX5_changeStates 17 = .ok (.aload_n 2, 1) := by decide +kernel
theorem dX5_changeStates_18 : decode cX5_changeStates 18 = .ok (.getfield 70, 3) := by decide +kernel
theorem dX5_changeStates_21 : decode cX5_changeStates 21 = .ok (.tableswitch 91 0 2 #[27, 46, 71], 27) := by decide +kernel
theorem dX5_changeStates_48 : decode cX5_changeStates 48 = .ok (.aload_n 2, 1) := by decide +kernel
theorem dX5_changeStates_49 : decode cX5_changeStates 49 = .ok (.aload_n 0, 1) := by decide +kernel
theorem dX5_changeStates_50 : decode cX5_changeStates 50 = .ok (.getfield 38, 3) := by decide +kernel
theorem dX5_changeStates_53 : decode cX5_changeStates 53 = .ok (.invokevirtual 103, 3) := by decide +kernel
theorem dX5_changeStates_56 : decode cX5_changeStates 56 = .ok (.ifCond .eq 56, 3) := by decide +kernel
theorem dX5_changeStates_59 : decode cX5_changeStates 59 = .ok (.aload_n 0, 1) := by decide +kernel
theorem dX5_changeStates_60 : decode cX5_changeStates 60 = .ok (.aload_n 2, 1) := by decide +kernel
theorem dX5_changeStates_61 : decode cX5_changeStates 61 = .ok (.invokevirtual 107, 3) := by decide +kernel
theorem dX5_changeStates_64 : decode cX5_changeStates 64 = .ok (.goto 48, 3) := by decide +kernel
theorem dX5_changeStates_67 : decode cX5_changeStates 67 = .ok (.aload_n 2, 1) := by decide +kernel
theorem dX5_changeStates_68 : decode cX5_changeStates 68 = .ok (.dup, 1) := by decide +kernel
theorem dX5_changeStates_69 : decode cX5_changeStates 69 = .ok (.getfield 110, 3) := by decide +kernel
theorem dX5_changeStates_72 : decode cX5_changeStates 72 = .ok (.iconst 1, 1) := by decide +kernel
theorem dX5_changeStates_73 : decode cX5_changeStates 73 = .ok (.isub, 1) := by decide +kernel
theorem dX5_changeStates_74 : decode cX5_changeStates 74 = .ok (.putfield 110, 3) := by decide +kernel
theorem dX5_changeStates_77 : decode cX5_changeStates 77 = .ok (.aload_n 2, 1) := by decide +kernel
theorem dX5_changeStates_78 : decode cX5_changeStates 78 = .ok (.getfield 110, 3) := by decide +kernel
theorem dX5_changeStates_81 : decode cX5_changeStates 81 = .ok (.ifCond .ne 31, 3) := by decide +kernel
theorem dX5_changeStates_84 : decode cX5_changeStates 84 = .ok (.aload_n 0, 1) := by decide +kernel
theorem dX5_changeStates_85 : decode cX5_changeStates 85 = .ok (.aload_n 2, 1) := by decide +kernel
theorem dX5_changeStates_86 : decode cX5_changeStates 86 = .ok (.invokevirtual 113, 3) := by decide +kernel
theorem dX5_changeStates_89 : decode cX5_changeStates 89 = .ok (.goto 23, 3) := by decide +kernel
theorem dX5_changeStates_92 : decode cX5_changeStates 92 = .ok (.aload_n 2, 1) := by decide +kernel
theorem dX5_changeStates_93 : decode cX5_changeStates 93 = .ok (.getfield 61, 3) := by decide +kernel
theorem dX5_changeStates_96 : decode cX5_changeStates 96 = .ok (.aload_n 0, 1) := by decide +kernel
theorem dX5_changeStates_97 : decode cX5_changeStates 97 = .ok (.getfield 50, 3) := by decide +kernel
theorem dX5_changeStates_100 : decode cX5_changeStates 100 = .ok (.iand, 1) := by decide +kernel
theorem dX5_changeStates_101 : decode cX5_changeStates 101 = .ok (.ifCond .ne 11, 3) := by decide +kernel
theorem dX5_changeStates_104 : decode cX5_changeStates 104 = .ok (.aload_n 0, 1) := by decide +kernel
theorem dX5_changeStates_105 : decode cX5_changeStates 105 = .ok (.aload_n 2, 1) := by decide +kernel
theorem dX5_changeStates_106 : decode cX5_changeStates 106 = .ok (.invokevirtual 116, 3) := by decide +kernel
theorem dX5_changeStates_109 : decode cX5_changeStates 109 = .ok (.goto 3, 3) := by decide +kernel
theorem dX5_changeStates_112 : decode cX5_changeStates 112 = .ok (.iinc 1 1, 3) := by decide +kernel
theorem dX5_changeStates_115 : decode cX5_changeStates 115 = .ok (.goto (-113), 3) := by decide +kernel
theorem dX5_changeStates_118 : decode cX5_changeStates 118 = .ok (.return_, 1) := by decide +kernel
theorem dX5_wakeOrSkip_0 : decode cX5_wakeOrSkip 0 = .ok (.aload_n 1, 1) := by decide +kernel
theorem dX5_wakeOrSkip_1 : decode cX5_wakeOrSkip 1 = .ok (.getfield 119, 3) := by decide +kernel
theorem dX5_wakeOrSkip_4 : decode cX5_wakeOrSkip 4 = .ok (.ifCond .ne 33, 3) := by decide +kernel
theorem dX5_wakeOrSkip_7 : decode cX5_wakeOrSkip 7 = .ok (.aload_n 1, 1) := by decide +kernel
theorem dX5_wakeOrSkip_8 : decode cX5_wakeOrSkip 8 = .ok (.getfield 61, 3) := by decide +kernel
theorem dX5_wakeOrSkip_11 : decode cX5_wakeOrSkip 11 = .ok (.ifCond .eq 26, 3) := by decide +kernel
theorem dX5_wakeOrSkip_14 : decode cX5_wakeOrSkip 14 = .ok (.aload_n 1, 1) := by decide +kernel
theorem dX5_wakeOrSkip_15 : decode cX5_wakeOrSkip 15 = .ok (.getfield 61, 3) := by decide +kernel
theorem dX5_wakeOrSkip_18 : decode cX5_wakeOrSkip 18 = .ok (.aload_n 0, 1) := by decide +kernel
theorem dX5_wakeOrSkip_19 : decode cX5_wakeOrSkip 19 = .ok (.aload_n 1, 1) := by decide +kernel
theorem dX5_wakeOrSkip_20 : decode cX5_wakeOrSkip 20 = .ok (.invokevirtual 79, 3) := by decide +kernel
theorem dX5_wakeOrSkip_23 : decode cX5_wakeOrSkip 23 = .ok (.iconst (-1), 1) := by decide +kernel
theorem dX5_wakeOrSkip_24 : decode cX5_wakeOrSkip 24 = .ok (.ixor, 1) := by decide +kernel
theorem dX5_wakeOrSkip_25 : decode cX5_wakeOrSkip 25 = .ok (.iand, 1) := by decide +kernel
theorem dX5_wakeOrSkip_26 : decode cX5_wakeOrSkip 26 = .ok (.ifCond .ne 11, 3) := by decide +kernel
theorem dX5_wakeOrSkip_29 : decode cX5_wakeOrSkip 29 = .ok (.aload_n 1, 1) := by decide +kernel
theorem dX5_wakeOrSkip_30 : decode cX5_wakeOrSkip 30 = .ok (.iconst 1, 1) := by decide +kernel
theorem dX5_wakeOrSkip_31 : decode cX5_wakeOrSkip 31 = .ok (.putfield 119, 3) := by decide +kernel
theorem dX5_wakeOrSkip_34 : decode cX5_wakeOrSkip 34 = .ok (.goto 7, 3) := by decide +kernel
theorem dX5_wakeOrSkip_37 : decode cX5_wakeOrSkip 37 = .ok (.aload_n 1, 1) := by decide +kernel
theorem dX5_wakeOrSkip_38 : decode cX5_wakeOrSkip 38 = .ok (.invokevirtual 123, 3) := by decide +kernel
theorem dX5_wakeOrSkip_41 : decode cX5_wakeOrSkip 41 = .ok (.return_, 1) := by decide +kernel
theorem dX5_waitOn_0 : decode cX5_waitOn 0 = .ok (.aload_n 1, 1) := by decide +kernel
theorem dX5_waitOn_1 : decode cX5_waitOn 1 = .ok (.dup, 1) := by decide +kernel
theorem dX5_waitOn_2 : decode cX5_waitOn 2 = .ok (.getfield 110, 3) := by decide +kernel
theorem dX5_waitOn_5 : decode cX5_waitOn 5 = .ok (.iconst 1, 1) := by decide +kernel
theorem dX5_waitOn_6 : decode cX5_waitOn 6 = .ok (.isub, 1) := by decide +kernel
theorem dX5_waitOn_7 : decode cX5_waitOn 7 = .ok (.putfield 110, 3) := by decide +kernel
theorem dX5_waitOn_10 : decode cX5_waitOn 10 = .ok (.aload_n 1, 1) := by decide +kernel
theorem dX5_waitOn_11 : decode cX5_waitOn 11 = .ok (.getfield 110, 3) := by decide +kernel
theorem dX5_waitOn_14 : decode cX5_waitOn 14 = .ok (.ifCond .ne 7, 3) := by decide +kernel
theorem dX5_waitOn_17 : decode cX5_waitOn 17 = .ok (.aload_n 1, 1) := by decide +kernel
theorem dX5_waitOn_18 : decode cX5_waitOn 18 = .ok (.invokevirtual 126, 3) := by decide +kernel
theorem dX5_waitOn_21 : decode cX5_waitOn 21 = .ok (.return_, 1) := by decide +kernel
theorem dX5_waitByDraw_0 : decode cX5_waitByDraw 0 = .ok (.aload_n 1, 1) := by decide +kernel
theorem dX5_waitByDraw_1 : decode cX5_waitByDraw 1 = .ok (.invokevirtual 129, 3) := by decide +kernel
theorem dX5_waitByDraw_4 : decode cX5_waitByDraw 4 = .ok (.istore_n 2, 1) := by decide +kernel
theorem dX5_waitByDraw_5 : decode cX5_waitByDraw 5 = .ok (.aload_n 0, 1) := by decide +kernel
theorem dX5_waitByDraw_6 : decode cX5_waitByDraw 6 = .ok (.aload_n 0, 1) := by decide +kernel
theorem dX5_waitByDraw_7 : decode cX5_waitByDraw 7 = .ok (.getfield 29, 3) := by decide +kernel
theorem dX5_waitByDraw_10 : decode cX5_waitByDraw 10 = .ok (.ldc 133, 2) := by decide +kernel
theorem dX5_waitByDraw_12 : decode cX5_waitByDraw 12 = .ok (.imul, 1) := by decide +kernel
theorem dX5_waitByDraw_13 : decode cX5_waitByDraw 13 = .ok (.sipush 12345, 3) := by decide +kernel
theorem dX5_waitByDraw_16 : decode cX5_waitByDraw 16 = .ok (.iadd, 1) := by decide +kernel
theorem dX5_waitByDraw_17 : decode cX5_waitByDraw 17 = .ok (.putfield 29, 3) := by decide +kernel
theorem dX5_waitByDraw_20 : decode cX5_waitByDraw 20 = .ok (.aload_n 1, 1) := by decide +kernel
theorem dX5_waitByDraw_21 : decode cX5_waitByDraw 21 = .ok (.iconst 2, 1) := by decide +kernel
theorem dX5_waitByDraw_22 : decode cX5_waitByDraw 22 = .ok (.putfield 70, 3) := by decide +kernel
theorem dX5_waitByDraw_25 : decode cX5_waitByDraw 25 = .ok (.aload_n 1, 1) := by decide +kernel
theorem dX5_waitByDraw_26 : decode cX5_waitByDraw 26 = .ok (.iload_n 2, 1) := by decide +kernel
theorem dX5_waitByDraw_27 : decode cX5_waitByDraw 27 = .ok (.iconst 1, 1) := by decide +kernel
theorem dX5_waitByDraw_28 : decode cX5_waitByDraw 28 = .ok (.if_icmp .ge 7, 3) := by decide +kernel
theorem dX5_waitByDraw_31 : decode cX5_waitByDraw 31 = .ok (.iconst 1, 1) := by decide +kernel
theorem dX5_waitByDraw_32 : decode cX5_waitByDraw 32 = .ok (.goto 14, 3) := by decide +kernel
theorem dX5_waitByDraw_35 : decode cX5_waitByDraw 35 = .ok (.iconst 1, 1) := by decide +kernel
theorem dX5_waitByDraw_36 : decode cX5_waitByDraw 36 = .ok (.aload_n 0, 1) := by decide +kernel
theorem dX5_waitByDraw_37 : decode cX5_waitByDraw 37 = .ok (.getfield 29, 3) := by decide +kernel
theorem dX5_waitByDraw_40 : decode cX5_waitByDraw 40 = .ok (.bipush 16, 2) := by decide +kernel
theorem dX5_waitByDraw_42 : decode cX5_waitByDraw 42 = .ok (.iushr, 1) := by decide +kernel
theorem dX5_waitByDraw_43 : decode cX5_waitByDraw 43 = .ok (.iload_n 2, 1) := by decide +kernel
theorem dX5_waitByDraw_44 : decode cX5_waitByDraw 44 = .ok (.irem, 1) := by decide +kernel
theorem dX5_waitByDraw_45 : decode cX5_waitByDraw 45 = .ok (.iadd, 1) := by decide +kernel
theorem dX5_waitByDraw_46 : decode cX5_waitByDraw 46 = .ok (.putfield 110, 3) := by decide +kernel
theorem dX5_waitByDraw_49 : decode cX5_waitByDraw 49 = .ok (.return_, 1) := by decide +kernel
theorem dX5_payForStates_0 : decode cX5_payForStates 0 = .ok (.iconst 0, 1) := by decide +kernel
theorem dX5_payForStates_1 : decode cX5_payForStates 1 = .ok (.istore_n 1, 1) := by decide +kernel
theorem dX5_payForStates_2 : decode cX5_payForStates 2 = .ok (.iload_n 1, 1) := by decide +kernel
theorem dX5_payForStates_3 : decode cX5_payForStates 3 = .ok (.aload_n 0, 1) := by decide +kernel
theorem dX5_payForStates_4 : decode cX5_payForStates 4 = .ok (.getfield 25, 3) := by decide +kernel
theorem dX5_payForStates_7 : decode cX5_payForStates 7 = .ok (.if_icmp .ge 50, 3) := by decide +kernel
theorem dX5_payForStates_10 : decode cX5_payForStates 10 = .ok (.aload_n 0, 1) := by decide +kernel
theorem dX5_payForStates_11 : decode cX5_payForStates 11 = .ok (.getfield 17, 3) := by decide +kernel
theorem dX5_payForStates_14 : decode cX5_payForStates 14 = .ok (.iload_n 1, 1) := by decide +kernel
theorem dX5_payForStates_15 : decode cX5_payForStates 15 = .ok (.aaload, 1) := by decide +kernel
theorem dX5_payForStates_16 : decode cX5_payForStates 16 = .ok (.astore_n 2, 1) := by decide +kernel
theorem dX5_payForStates_17 : decode cX5_payForStates 17 = .ok (.aload_n 2, 1) := by decide +kernel
theorem dX5_payForStates_18 : decode cX5_payForStates 18 = .ok (.getfield 70, 3) := by decide +kernel
theorem dX5_payForStates_21 : decode cX5_payForStates 21 = .ok (.iconst 4, 1) := by decide +kernel
theorem dX5_payForStates_22 : decode cX5_payForStates 22 = .ok (.if_icmp .eq 29, 3) := by decide +kernel
theorem dX5_payForStates_25 : decode cX5_payForStates 25 = .ok (.aload_n 2, 1) := by decide +kernel
theorem dX5_payForStates_26 : decode cX5_payForStates 26 = .ok (.getfield 134, 3) := by decide +kernel
theorem dX5_payForStates_29 : decode cX5_payForStates 29 = .ok (.aload_n 2, 1) := by decide +kernel
theorem dX5_payForStates_30 : decode cX5_payForStates 30 = .ok (.getfield 70, 3) := by decide +kernel
theorem dX5_payForStates_33 : decode cX5_payForStates 33 = .ok (.dup2, 1) := by decide +kernel
theorem dX5_payForStates_34 : decode cX5_payForStates 34 = .ok (.iaload, 1) := by decide +kernel
theorem dX5_payForStates_35 : decode cX5_payForStates 35 = .ok (.iconst 1, 1) := by decide +kernel
theorem dX5_payForStates_36 : decode cX5_payForStates 36 = .ok (.iadd, 1) := by decide +kernel
theorem dX5_payForStates_37 : decode cX5_payForStates 37 = .ok (.iastore, 1) := by decide +kernel
theorem dX5_payForStates_38 : decode cX5_payForStates 38 = .ok (.aload_n 2, 1) := by decide +kernel
theorem dX5_payForStates_39 : decode cX5_payForStates 39 = .ok (.aload_n 0, 1) := by decide +kernel
theorem dX5_payForStates_40 : decode cX5_payForStates 40 = .ok (.getfield 9, 3) := by decide +kernel
theorem dX5_payForStates_43 : decode cX5_payForStates 43 = .ok (.aload_n 2, 1) := by decide +kernel
theorem dX5_payForStates_44 : decode cX5_payForStates 44 = .ok (.getfield 70, 3) := by decide +kernel
theorem dX5_payForStates_47 : decode cX5_payForStates 47 = .ok (.iaload, 1) := by decide +kernel
theorem dX5_payForStates_48 : decode cX5_payForStates 48 = .ok (.invokevirtual 137, 3) := by decide +kernel
theorem dX5_payForStates_51 : decode cX5_payForStates 51 = .ok (.iinc 1 1, 3) := by decide +kernel
theorem dX5_payForStates_54 : decode cX5_payForStates 54 = .ok (.goto (-52), 3) := by decide +kernel
theorem dX5_payForStates_57 : decode cX5_payForStates 57 = .ok (.return_, 1) := by decide +kernel
theorem dX5_listenToSenders_0 : decode cX5_listenToSenders 0 = .ok (.aload_n 0, 1) := by decide +kernel
theorem dX5_listenToSenders_1 : decode cX5_listenToSenders 1 = .ok (.aload_n 0, 1) := by decide +kernel
theorem dX5_listenToSenders_2 : decode cX5_listenToSenders 2 = .ok (.iconst 3, 1) := by decide +kernel
theorem dX5_listenToSenders_3 : decode cX5_listenToSenders 3 = .ok (.invokevirtual 73, 3) := by decide +kernel
theorem dX5_listenToSenders_6 : decode cX5_listenToSenders 6 = .ok (.putfield 50, 3) := by decide +kernel
theorem dX5_listenToSenders_9 : decode cX5_listenToSenders 9 = .ok (.aload_n 0, 1) := by decide +kernel
theorem dX5_listenToSenders_10 : decode cX5_listenToSenders 10 = .ok (.getfield 50, 3) := by decide +kernel
theorem dX5_listenToSenders_13 : decode cX5_listenToSenders 13 = .ok (.ifCond .ne 4, 3) := by decide +kernel
theorem dX5_listenToSenders_16 : decode cX5_listenToSenders 16 = .ok (.return_, 1) := by decide +kernel
theorem dX5_listenToSenders_17 : decode cX5_listenToSenders 17 = .ok (.iconst 0, 1) := by decide +kernel
theorem dX5_listenToSenders_18 : decode cX5_listenToSenders 18 = .ok (.istore_n 1, 1) := by decide +kernel
theorem dX5_listenToSenders_19 : decode cX5_listenToSenders 19 = .ok (.iload_n 1, 1) := by decide +kernel
theorem dX5_listenToSenders_20 : decode cX5_listenToSenders 20 = .ok (.aload_n 0, 1) := by decide +kernel
theorem dX5_listenToSenders_21 : decode cX5_listenToSenders 21 = .ok (.getfield 25, 3) := by decide +kernel
theorem dX5_listenToSenders_24 : decode cX5_listenToSenders 24 = .ok (.if_icmp .ge 124, 3) := by decide +kernel
theorem dX5_listenToSenders_27 : decode cX5_listenToSenders 27 = .ok (.aload_n 0, 1) := by decide +kernel
theorem dX5_listenToSenders_28 : decode cX5_listenToSenders 28 = .ok (.getfield 17, 3) := by decide +kernel
theorem dX5_listenToSenders_31 : decode cX5_listenToSenders 31 = .ok (.iload_n 1, 1) := by decide +kernel
theorem dX5_listenToSenders_32 : decode cX5_listenToSenders 32 = .ok (.aaload, 1) := by decide +kernel
theorem dX5_listenToSenders_33 : decode cX5_listenToSenders 33 = .ok (.astore_n 2, 1) := by decide +kernel
theorem dX5_listenToSenders_34 : decode cX5_listenToSenders 34 = .ok (.aload_n 2, 1) := by decide +kernel
theorem dX5_listenToSenders_35 : decode cX5_listenToSenders 35 = .ok (.getfield 61, 3) := by decide +kernel
theorem dX5_listenToSenders_38 : decode cX5_listenToSenders 38 = .ok (.aload_n 0, 1) := by decide +kernel
theorem dX5_listenToSenders_39 : decode cX5_listenToSenders 39 = .ok (.getfield 50, 3) := by decide +kernel
theorem dX5_listenToSenders_42 : decode cX5_listenToSenders 42 = .ok (.iand, 1) := by decide +kernel
theorem dX5_listenToSenders_43 : decode cX5_listenToSenders 43 = .ok (.invokestatic 64, 3) := by decide +kernel
theorem dX5_listenToSenders_46 : decode cX5_listenToSenders 46 = .ok (.iconst 1, 1) := by decide +kernel
theorem dX5_listenToSenders_47 : decode cX5_listenToSenders 47 = .ok (.if_icmp .le 7, 3) := by decide +kernel
theorem dX5_listenToSenders_50 : decode cX5_listenToSenders 50 = .ok (.iconst 1, 1) := by decide +kernel
theorem dX5_listenToSenders_51 : decode cX5_listenToSenders 51 = .ok (.goto 4, 3) := by decide +kernel
theorem dX5_listenToSenders_54 : decode cX5_listenToSenders 54 = .ok (.iconst 0, 1) := by decide +kernel
theorem dX5_listenToSenders_55 : decode cX5_listenToSenders 55 = .ok (.istore_n 3, 1) := by decide +kernel
theorem dX5_listenToSenders_56 : decode cX5_listenToSenders 56 = .ok (.iload_n 3, 1) := by decide +kernel
theorem dX5_listenToSenders_57 : decode cX5_listenToSenders 57 = .ok (.ifCond .eq 20, 3) := by decide +kernel
theorem dX5_listenToSenders_60 : decode cX5_listenToSenders 60 = .ok (.aload_n 2, 1) := by decide +kernel
theorem dX5_listenToSenders_61 : decode cX5_listenToSenders 61 = .ok (.invokevirtual 141, 3) := by decide +kernel
theorem dX5_listenToSenders_64 : decode cX5_listenToSenders 64 = .ok (.ifCond .eq 13, 3) := by decide +kernel
theorem dX5_listenToSenders_67 : decode cX5_listenToSenders 67 = .ok (.aload_n 0, 1) := by decide +kernel
theorem dX5_listenToSenders_68 : decode cX5_listenToSenders 68 = .ok (.dup, 1) := by decide +kernel
theorem dX5_listenToSenders_69 : decode cX5_listenToSenders 69 = .ok (.getfield 47, 3) := by decide +kernel
theorem dX5_listenToSenders_72 : decode cX5_listenToSenders 72 = .ok (.iconst 1, 1) := by decide +kernel
theorem dX5_listenToSenders_73 : decode cX5_listenToSenders 73 = .ok (.iadd, 1) := by decide +kernel
theorem dX5_listenToSenders_74 : decode cX5_listenToSenders 74 = .ok (.putfield 47, 3) := by decide +kernel
theorem dX5_listenToSenders_77 : decode cX5_listenToSenders 77 = .ok (.iconst 0, 1) := by decide +kernel
theorem dX5_listenToSenders_78 : decode cX5_listenToSenders 78 = .ok (.istore 4, 2) := by decide +kernel
theorem dX5_listenToSenders_80 : decode cX5_listenToSenders 80 = .ok (.iload 4, 2) := by decide +kernel
theorem dX5_listenToSenders_82 : decode cX5_listenToSenders 82 = .ok (.aload_n 0, 1) := by decide +kernel
theorem dX5_listenToSenders_83 : decode cX5_listenToSenders 83 = .ok (.getfield 25, 3) := by decide +kernel
theorem dX5_listenToSenders_86 : decode cX5_listenToSenders 86 = .ok (.if_icmp .ge 56, 3) := by decide +kernel
theorem dX5_listenToSenders_89 : decode cX5_listenToSenders 89 = .ok (.aload_n 0, 1) := by decide +kernel
theorem dX5_listenToSenders_90 : decode cX5_listenToSenders 90 = .ok (.getfield 50, 3) := by decide +kernel
theorem dX5_listenToSenders_93 : decode cX5_listenToSenders 93 = .ok (.iload 4, 2) := by decide +kernel
theorem dX5_listenToSenders_95 : decode cX5_listenToSenders 95 = .ok (.invokestatic 83, 3) := by decide +kernel
theorem dX5_listenToSenders_98 : decode cX5_listenToSenders 98 = .ok (.ifCond .eq 38, 3) := by decide +kernel
theorem dX5_listenToSenders_101 : decode cX5_listenToSenders 101 = .ok (.aload_n 0, 1) := by decide +kernel
theorem dX5_listenToSenders_102 : decode cX5_listenToSenders 102 = .ok (.getfield 17, 3) := by decide +kernel
theorem dX5_listenToSenders_105 : decode cX5_listenToSenders 105 = .ok (.iload 4, 2) := by decide +kernel
theorem dX5_listenToSenders_107 : decode cX5_listenToSenders 107 = .ok (.aaload, 1) := by decide +kernel
theorem dX5_listenToSenders_108 : decode cX5_listenToSenders 108 = .ok (.getfield 145, 3) := by decide +kernel
theorem dX5_listenToSenders_111 : decode cX5_listenToSenders 111 = .ok (.iload_n 1, 1) := by decide +kernel
theorem dX5_listenToSenders_112 : decode cX5_listenToSenders 112 = .ok (.iaload, 1) := by decide +kernel
theorem dX5_listenToSenders_113 : decode cX5_listenToSenders 113 = .ok (.ifCond .ne 23, 3) := by decide +kernel
theorem dX5_listenToSenders_116 : decode cX5_listenToSenders 116 = .ok (.aload_n 0, 1) := by decide +kernel
theorem dX5_listenToSenders_117 : decode cX5_listenToSenders 117 = .ok (.getfield 17, 3) := by decide +kernel
theorem dX5_listenToSenders_120 : decode cX5_listenToSenders 120 = .ok (.iload 4, 2) := by decide +kernel
theorem dX5_listenToSenders_122 : decode cX5_listenToSenders 122 = .ok (.aaload, 1) := by decide +kernel
theorem dX5_listenToSenders_123 : decode cX5_listenToSenders 123 = .ok (.getfield 145, 3) := by decide +kernel
theorem dX5_listenToSenders_126 : decode cX5_listenToSenders 126 = .ok (.iload_n 1, 1) := by decide +kernel
theorem dX5_listenToSenders_127 : decode cX5_listenToSenders 127 = .ok (.aload_n 0, 1) := by decide +kernel
theorem dX5_listenToSenders_128 : decode cX5_listenToSenders 128 = .ok (.aload_n 2, 1) := by decide +kernel
theorem dX5_listenToSenders_129 : decode cX5_listenToSenders 129 = .ok (.iload 4, 2) := by decide +kernel
theorem dX5_listenToSenders_131 : decode cX5_listenToSenders 131 = .ok (.iload_n 3, 1) := by decide +kernel
theorem dX5_listenToSenders_132 : decode cX5_listenToSenders 132 = .ok (.invokevirtual 148, 3) := by decide +kernel
theorem dX5_listenToSenders_135 : decode cX5_listenToSenders 135 = .ok (.iastore, 1) := by decide +kernel
theorem dX5_listenToSenders_136 : decode cX5_listenToSenders 136 = .ok (.iinc 4 1, 3) := by decide +kernel
theorem dX5_listenToSenders_139 : decode cX5_listenToSenders 139 = .ok (.goto (-59), 3) := by decide +kernel
theorem dX5_listenToSenders_142 : decode cX5_listenToSenders 142 = .ok (.iinc 1 1, 3) := by decide +kernel
theorem dX5_listenToSenders_145 : decode cX5_listenToSenders 145 = .ok (.goto (-126), 3) := by decide +kernel
theorem dX5_listenToSenders_148 : decode cX5_listenToSenders 148 = .ok (.return_, 1) := by decide +kernel
theorem dX5_reasonAgainst_0 : decode cX5_reasonAgainst 0 = .ok (.aload_n 1, 1) := by decide +kernel
theorem dX5_reasonAgainst_1 : decode cX5_reasonAgainst 1 = .ok (.getfield 61, 3) := by decide +kernel
theorem dX5_reasonAgainst_4 : decode cX5_reasonAgainst 4 = .ok (.iload_n 2, 1) := by decide +kernel
theorem dX5_reasonAgainst_5 : decode cX5_reasonAgainst 5 = .ok (.invokestatic 83, 3) := by decide +kernel
theorem dX5_reasonAgainst_8 : decode cX5_reasonAgainst 8 = .ok (.ifCond .ne 5, 3) := by decide +kernel
theorem dX5_reasonAgainst_11 : decode cX5_reasonAgainst 11 = .ok (.iconst 1, 1) := by decide +kernel
theorem dX5_reasonAgainst_12 : decode cX5_reasonAgainst 12 = .ok (.ireturn, 1) := by decide +kernel
theorem dX5_reasonAgainst_13 : decode cX5_reasonAgainst 13 = .ok (.aload_n 1, 1) := by decide +kernel
theorem dX5_reasonAgainst_14 : decode cX5_reasonAgainst 14 = .ok (.getfield 70, 3) := by decide +kernel
theorem dX5_reasonAgainst_17 : decode cX5_reasonAgainst 17 = .ok (.iconst 3, 1) := by decide +kernel
theorem dX5_reasonAgainst_18 : decode cX5_reasonAgainst 18 = .ok (.if_icmp .ne 5, 3) := by decide +kernel
theorem dX5_reasonAgainst_21 : decode cX5_reasonAgainst 21 = .ok (.iconst 3, 1) := by decide +kernel
theorem dX5_reasonAgainst_22 : decode cX5_reasonAgainst 22 = .ok (.ireturn, 1) := by decide +kernel
theorem dX5_reasonAgainst_23 : decode cX5_reasonAgainst 23 = .ok (.aload_n 1, 1) := by decide +kernel
theorem dX5_reasonAgainst_24 : decode cX5_reasonAgainst 24 = .ok (.invokevirtual 141, 3) := by decide +kernel
theorem dX5_reasonAgainst_27 : decode cX5_reasonAgainst 27 = .ok (.ifCond .ne 5, 3) := by decide +kernel
theorem dX5_reasonAgainst_30 : decode cX5_reasonAgainst 30 = .ok (.iconst 2, 1) := by decide +kernel
theorem dX5_reasonAgainst_31 : decode cX5_reasonAgainst 31 = .ok (.ireturn, 1) := by decide +kernel
theorem dX5_reasonAgainst_32 : decode cX5_reasonAgainst 32 = .ok (.iload_n 3, 1) := by decide +kernel
theorem dX5_reasonAgainst_33 : decode cX5_reasonAgainst 33 = .ok (.ifCond .eq 7, 3) := by decide +kernel
theorem dX5_reasonAgainst_36 : decode cX5_reasonAgainst 36 = .ok (.iconst 4, 1) := by decide +kernel
theorem dX5_reasonAgainst_37 : decode cX5_reasonAgainst 37 = .ok (.goto 4, 3) := by decide +kernel
theorem dX5_reasonAgainst_40 : decode cX5_reasonAgainst 40 = .ok (.iconst 0, 1) := by decide +kernel
theorem dX5_reasonAgainst_41 : decode cX5_reasonAgainst 41 = .ok (.ireturn, 1) := by decide +kernel
theorem dX5_endSendings_0 : decode cX5_endSendings 0 = .ok (.iconst 0, 1) := by decide +kernel
theorem dX5_endSendings_1 : decode cX5_endSendings 1 = .ok (.istore_n 1, 1) := by decide +kernel
theorem dX5_endSendings_2 : decode cX5_endSendings 2 = .ok (.iload_n 1, 1) := by decide +kernel
theorem dX5_endSendings_3 : decode cX5_endSendings 3 = .ok (.aload_n 0, 1) := by decide +kernel
theorem dX5_endSendings_4 : decode cX5_endSendings 4 = .ok (.getfield 25, 3) := by decide +kernel
theorem dX5_endSendings_7 : decode cX5_endSendings 7 = .ok (.if_icmp .ge 55, 3) := by decide +kernel
theorem dX5_endSendings_10 : decode cX5_endSendings 10 = .ok (.aload_n 0, 1) := by decide +kernel
theorem dX5_endSendings_11 : decode cX5_endSendings 11 = .ok (.getfield 17, 3) := by decide +kernel
theorem dX5_endSendings_14 : decode cX5_endSendings 14 = .ok (.iload_n 1, 1) := by decide +kernel
theorem dX5_endSendings_15 : decode cX5_endSendings 15 = .ok (.aaload, 1) := by decide +kernel
theorem dX5_endSendings_16 : decode cX5_endSendings 16 = .ok (.astore_n 2, 1) := by decide +kernel
theorem dX5_endSendings_17 : decode cX5_endSendings 17 = .ok (.aload_n 2, 1) := by decide +kernel
theorem dX5_endSendings_18 : decode cX5_endSendings 18 = .ok (.getfield 70, 3) := by decide +kernel
theorem dX5_endSendings_21 : decode cX5_endSendings 21 = .ok (.iconst 3, 1) := by decide +kernel
theorem dX5_endSendings_22 : decode cX5_endSendings 22 = .ok (.if_icmp .ne 34, 3) := by decide +kernel
theorem dX5_endSendings_25 : decode cX5_endSendings 25 = .ok (.aload_n 2, 1) := by decide +kernel
theorem dX5_endSendings_26 : decode cX5_endSendings 26 = .ok (.dup, 1) := by decide +kernel
theorem dX5_endSendings_27 : decode cX5_endSendings 27 = .ok (.getfield 110, 3) := by decide +kernel
theorem dX5_endSendings_30 : decode cX5_endSendings 30 = .ok (.iconst 1, 1) := by decide +kernel
theorem dX5_endSendings_31 : decode cX5_endSendings 31 = .ok (.isub, 1) := by decide +kernel
theorem dX5_endSendings_32 : decode cX5_endSendings 32 = .ok (.putfield 110, 3) := by decide +kernel
theorem dX5_endSendings_35 : decode cX5_endSendings 35 = .ok (.aload_n 2, 1) := by decide +kernel
theorem dX5_endSendings_36 : decode cX5_endSendings 36 = .ok (.getfield 110, 3) := by decide +kernel
theorem dX5_endSendings_39 : decode cX5_endSendings 39 = .ok (.ifCond .ne 17, 3) := by decide +kernel
theorem dX5_endSendings_42 : decode cX5_endSendings 42 = .ok (.aload_n 0, 1) := by decide +kernel
theorem dX5_endSendings_43 : decode cX5_endSendings 43 = .ok (.aload_n 2, 1) := by decide +kernel
theorem dX5_endSendings_44 : decode cX5_endSendings 44 = .ok (.iload_n 1, 1) := by decide +kernel
theorem dX5_endSendings_45 : decode cX5_endSendings 45 = .ok (.invokevirtual 152, 3) := by decide +kernel
theorem dX5_endSendings_48 : decode cX5_endSendings 48 = .ok (.ifCond .ne 8, 3) := by decide +kernel
theorem dX5_endSendings_51 : decode cX5_endSendings 51 = .ok (.aload_n 0, 1) := by decide +kernel
theorem dX5_endSendings_52 : decode cX5_endSendings 52 = .ok (.aload_n 2, 1) := by decide +kernel
theorem dX5_endSendings_53 : decode cX5_endSendings 53 = .ok (.invokevirtual 113, 3) := by decide +kernel
theorem dX5_endSendings_56 : decode cX5_endSendings 56 = .ok (.iinc 1 1, 3) := by decide +kernel
theorem dX5_endSendings_59 : decode cX5_endSendings 59 = .ok (.goto (-57), 3) := by decide +kernel
theorem dX5_endSendings_62 : decode cX5_endSendings 62 = .ok (.return_, 1) := by decide +kernel
theorem dX5_endSending_0 : decode cX5_endSending 0 = .ok (.aload_n 0, 1) := by decide +kernel
theorem dX5_endSending_1 : decode cX5_endSending 1 = .ok (.aload_n 1, 1) := by decide +kernel
theorem dX5_endSending_2 : decode cX5_endSending 2 = .ok (.iload_n 2, 1) := by decide +kernel
theorem dX5_endSending_3 : decode cX5_endSending 3 = .ok (.invokevirtual 156, 3) := by decide +kernel
theorem dX5_endSending_6 : decode cX5_endSending 6 = .ok (.ifCond .eq 29, 3) := by decide +kernel
theorem dX5_endSending_9 : decode cX5_endSending 9 = .ok (.aload_n 1, 1) := by decide +kernel
theorem dX5_endSending_10 : decode cX5_endSending 10 = .ok (.dup, 1) := by decide +kernel
theorem dX5_endSending_11 : decode cX5_endSending 11 = .ok (.getfield 159, 3) := by decide +kernel
theorem dX5_endSending_14 : decode cX5_endSending 14 = .ok (.iconst 1, 1) := by decide +kernel
theorem dX5_endSending_15 : decode cX5_endSending 15 = .ok (.iadd, 1) := by decide +kernel
theorem dX5_endSending_16 : decode cX5_endSending 16 = .ok (.putfield 159, 3) := by decide +kernel
theorem dX5_endSending_19 : decode cX5_endSending 19 = .ok (.aload_n 0, 1) := by decide +kernel
theorem dX5_endSending_20 : decode cX5_endSending 20 = .ok (.dup, 1) := by decide +kernel
theorem dX5_endSending_21 : decode cX5_endSending 21 = .ok (.getfield 41, 3) := by decide +kernel
theorem dX5_endSending_24 : decode cX5_endSending 24 = .ok (.iconst 1, 1) := by decide +kernel
theorem dX5_endSending_25 : decode cX5_endSending 25 = .ok (.iadd, 1) := by decide +kernel
theorem dX5_endSending_26 : decode cX5_endSending 26 = .ok (.putfield 41, 3) := by decide +kernel
theorem dX5_endSending_29 : decode cX5_endSending 29 = .ok (.aload_n 1, 1) := by decide +kernel
theorem dX5_endSending_30 : decode cX5_endSending 30 = .ok (.invokevirtual 160, 3) := by decide +kernel
theorem dX5_endSending_33 : decode cX5_endSending 33 = .ok (.iconst 1, 1) := by decide +kernel
theorem dX5_endSending_34 : decode cX5_endSending 34 = .ok (.ireturn, 1) := by decide +kernel
theorem dX5_endSending_35 : decode cX5_endSending 35 = .ok (.aload_n 1, 1) := by decide +kernel
theorem dX5_endSending_36 : decode cX5_endSending 36 = .ok (.dup, 1) := by decide +kernel
theorem dX5_endSending_37 : decode cX5_endSending 37 = .ok (.getfield 163, 3) := by decide +kernel
theorem dX5_endSending_40 : decode cX5_endSending 40 = .ok (.iconst 1, 1) := by decide +kernel
theorem dX5_endSending_41 : decode cX5_endSending 41 = .ok (.iadd, 1) := by decide +kernel
theorem dX5_endSending_42 : decode cX5_endSending 42 = .ok (.putfield 163, 3) := by decide +kernel
theorem dX5_endSending_45 : decode cX5_endSending 45 = .ok (.aload_n 1, 1) := by decide +kernel
theorem dX5_endSending_46 : decode cX5_endSending 46 = .ok (.getfield 163, 3) := by decide +kernel
theorem dX5_endSending_49 : decode cX5_endSending 49 = .ok (.aload_n 0, 1) := by decide +kernel
theorem dX5_endSending_50 : decode cX5_endSending 50 = .ok (.getfield 32, 3) := by decide +kernel
theorem dX5_endSending_53 : decode cX5_endSending 53 = .ok (.if_icmp .lt 29, 3) := by decide +kernel
theorem dX5_endSending_56 : decode cX5_endSending 56 = .ok (.aload_n 1, 1) := by decide +kernel
theorem dX5_endSending_57 : decode cX5_endSending 57 = .ok (.dup, 1) := by decide +kernel
theorem dX5_endSending_58 : decode cX5_endSending 58 = .ok (.getfield 166, 3) := by decide +kernel
theorem dX5_endSending_61 : decode cX5_endSending 61 = .ok (.iconst 1, 1) := by decide +kernel
theorem dX5_endSending_62 : decode cX5_endSending 62 = .ok (.iadd, 1) := by decide +kernel
theorem dX5_endSending_63 : decode cX5_endSending 63 = .ok (.putfield 166, 3) := by decide +kernel
theorem dX5_endSending_66 : decode cX5_endSending 66 = .ok (.aload_n 0, 1) := by decide +kernel
theorem dX5_endSending_67 : decode cX5_endSending 67 = .ok (.dup, 1) := by decide +kernel
theorem dX5_endSending_68 : decode cX5_endSending 68 = .ok (.getfield 44, 3) := by decide +kernel
theorem dX5_endSending_71 : decode cX5_endSending 71 = .ok (.iconst 1, 1) := by decide +kernel
theorem dX5_endSending_72 : decode cX5_endSending 72 = .ok (.iadd, 1) := by decide +kernel
theorem dX5_endSending_73 : decode cX5_endSending 73 = .ok (.putfield 44, 3) := by decide +kernel
theorem dX5_endSending_76 : decode cX5_endSending 76 = .ok (.aload_n 1, 1) := by decide +kernel
theorem dX5_endSending_77 : decode cX5_endSending 77 = .ok (.invokevirtual 160, 3) := by decide +kernel
theorem dX5_endSending_80 : decode cX5_endSending 80 = .ok (.iconst 1, 1) := by decide +kernel
theorem dX5_endSending_81 : decode cX5_endSending 81 = .ok (.ireturn, 1) := by decide +kernel
theorem dX5_endSending_82 : decode cX5_endSending 82 = .ok (.iconst 0, 1) := by decide +kernel
theorem dX5_endSending_83 : decode cX5_endSending 83 = .ok (.ireturn, 1) := by decide +kernel
theorem dX5_tellEars_0 : decode cX5_tellEars 0 = .ok (.iconst 0, 1) := by decide +kernel
theorem dX5_tellEars_1 : decode cX5_tellEars 1 = .ok (.istore_n 3, 1) := by decide +kernel
theorem dX5_tellEars_2 : decode cX5_tellEars 2 = .ok (.iconst 0, 1) := by decide +kernel
theorem dX5_tellEars_3 : decode cX5_tellEars 3 = .ok (.istore 4, 2) := by decide +kernel
theorem dX5_tellEars_5 : decode cX5_tellEars 5 = .ok (.iload 4, 2) := by decide +kernel
theorem dX5_tellEars_7 : decode cX5_tellEars 7 = .ok (.aload_n 0, 1) := by decide +kernel
theorem dX5_tellEars_8 : decode cX5_tellEars 8 = .ok (.getfield 25, 3) := by decide +kernel
theorem dX5_tellEars_11 : decode cX5_tellEars 11 = .ok (.if_icmp .ge 51, 3) := by decide +kernel
theorem dX5_tellEars_14 : decode cX5_tellEars 14 = .ok (.aload_n 1, 1) := by decide +kernel
theorem dX5_tellEars_15 : decode cX5_tellEars 15 = .ok (.getfield 167, 3) := by decide +kernel
theorem dX5_tellEars_18 : decode cX5_tellEars 18 = .ok (.iload 4, 2) := by decide +kernel
theorem dX5_tellEars_20 : decode cX5_tellEars 20 = .ok (.aload_n 1, 1) := by decide +kernel
theorem dX5_tellEars_21 : decode cX5_tellEars 21 = .ok (.getfield 145, 3) := by decide +kernel
theorem dX5_tellEars_24 : decode cX5_tellEars 24 = .ok (.iload 4, 2) := by decide +kernel
theorem dX5_tellEars_26 : decode cX5_tellEars 26 = .ok (.iaload, 1) := by decide +kernel
theorem dX5_tellEars_27 : decode cX5_tellEars 27 = .ok (.iastore, 1) := by decide +kernel
theorem dX5_tellEars_28 : decode cX5_tellEars 28 = .ok (.aload_n 1, 1) := by decide +kernel
theorem dX5_tellEars_29 : decode cX5_tellEars 29 = .ok (.getfield 145, 3) := by decide +kernel
theorem dX5_tellEars_32 : decode cX5_tellEars 32 = .ok (.iload 4, 2) := by decide +kernel
theorem dX5_tellEars_34 : decode cX5_tellEars 34 = .ok (.iaload, 1) := by decide +kernel
theorem dX5_tellEars_35 : decode cX5_tellEars 35 = .ok (.ifCond .ne 21, 3) := by decide +kernel
theorem dX5_tellEars_38 : decode cX5_tellEars 38 = .ok (.aload_n 0, 1) := by decide +kernel
theorem dX5_tellEars_39 : decode cX5_tellEars 39 = .ok (.getfield 17, 3) := by decide +kernel
theorem dX5_tellEars_42 : decode cX5_tellEars 42 = .ok (.iload 4, 2) := by decide +kernel
theorem dX5_tellEars_44 : decode cX5_tellEars 44 = .ok (.aaload, 1) := by decide +kernel
theorem dX5_tellEars_45 : decode cX5_tellEars 45 = .ok (.getfield 76, 3) := by decide +kernel
theorem dX5_tellEars_48 : decode cX5_tellEars 48 = .ok (.iload_n 2, 1) := by decide +kernel
theorem dX5_tellEars_49 : decode cX5_tellEars 49 = .ok (.aload_n 0, 1) := by decide +kernel
theorem dX5_tellEars_50 : decode cX5_tellEars 50 = .ok (.getfield 38, 3) := by decide +kernel
theorem dX5_tellEars_53 : decode cX5_tellEars 53 = .ok (.iastore, 1) := by decide +kernel
theorem dX5_tellEars_54 : decode cX5_tellEars 54 = .ok (.iconst 1, 1) := by decide +kernel
theorem dX5_tellEars_55 : decode cX5_tellEars 55 = .ok (.istore_n 3, 1) := by decide +kernel
theorem dX5_tellEars_56 : decode cX5_tellEars 56 = .ok (.iinc 4 1, 3) := by decide +kernel
theorem dX5_tellEars_59 : decode cX5_tellEars 59 = .ok (.goto (-54), 3) := by decide +kernel
theorem dX5_tellEars_62 : decode cX5_tellEars 62 = .ok (.iload_n 3, 1) := by decide +kernel
theorem dX5_tellEars_63 : decode cX5_tellEars 63 = .ok (.ireturn, 1) := by decide +kernel
theorem dX6_init_0 : decode cX6_init 0 = .ok (.aload_n 0, 1) := by decide +kernel
theorem dX6_init_1 : decode cX6_init 1 = .ok (.invokespecial 1, 3) := by decide +kernel
theorem dX6_init_4 : decode cX6_init 4 = .ok (.aload_n 0, 1) := by decide +kernel
theorem dX6_init_5 : decode cX6_init 5 = .ok (.sipush 700, 3) := by decide +kernel
theorem dX6_init_8 : decode cX6_init 8 = .ok (.newarray .byte, 2) := by decide +kernel
theorem dX6_init_10 : decode cX6_init 10 = .ok (.putfield 9, 3) := by decide +kernel
theorem dX6_init_13 : decode cX6_init 13 = .ok (.aload_n 0, 1) := by decide +kernel
theorem dX6_init_14 : decode cX6_init 14 = .ok (.iconst (-1), 1) := by decide +kernel
theorem dX6_init_15 : decode cX6_init 15 = .ok (.putfield 13, 3) := by decide +kernel
theorem dX6_init_18 : decode cX6_init 18 = .ok (.aload_n 0, 1) := by decide +kernel
theorem dX6_init_19 : decode cX6_init 19 = .ok (.new 17, 3) := by decide +kernel
theorem dX6_init_22 : decode cX6_init 22 = .ok (.dup, 1) := by decide +kernel
theorem dX6_init_23 : decode cX6_init 23 = .ok (.invokespecial 19, 3) := by decide +kernel
theorem dX6_init_26 : decode cX6_init 26 = .ok (.putfield 20, 3) := by decide +kernel
theorem dX6_init_29 : decode cX6_init 29 = .ok (.aload_n 0, 1) := by decide +kernel
theorem dX6_init_30 : decode cX6_init 30 = .ok (.new 17, 3) := by decide +kernel
theorem dX6_init_33 : decode cX6_init 33 = .ok (.dup, 1) := by decide +kernel
theorem dX6_init_34 : decode cX6_init 34 = .ok (.invokespecial 19, 3) := by decide +kernel
theorem dX6_init_37 : decode cX6_init 37 = .ok (.putfield 24, 3) := by decide +kernel
theorem dX6_init_40 : decode cX6_init 40 = .ok (.aload_n 0, 1) := by decide +kernel
theorem dX6_init_41 : decode cX6_init 41 = .ok (.new 17, 3) := by decide +kernel
theorem dX6_init_44 : decode cX6_init 44 = .ok (.dup, 1) := by decide +kernel
theorem dX6_init_45 : decode cX6_init 45 = .ok (.invokespecial 19, 3) := by decide +kernel
theorem dX6_init_48 : decode cX6_init 48 = .ok (.putfield 27, 3) := by decide +kernel
theorem dX6_init_51 : decode cX6_init 51 = .ok (.aload_n 0, 1) := by decide +kernel
theorem dX6_init_52 : decode cX6_init 52 = .ok (.bipush 6, 2) := by decide +kernel
theorem dX6_init_54 : decode cX6_init 54 = .ok (.anewarray 17, 3) := by decide +kernel
theorem dX6_init_57 : decode cX6_init 57 = .ok (.putfield 30, 3) := by decide +kernel
theorem dX6_init_60 : decode cX6_init 60 = .ok (.iconst 0, 1) := by decide +kernel
theorem dX6_init_61 : decode cX6_init 61 = .ok (.istore_n 1, 1) := by decide +kernel
theorem dX6_init_62 : decode cX6_init 62 = .ok (.iload_n 1, 1) := by decide +kernel
theorem dX6_init_63 : decode cX6_init 63 = .ok (.bipush 6, 2) := by decide +kernel
theorem dX6_init_65 : decode cX6_init 65 = .ok (.if_icmp .ge 22, 3) := by decide +kernel
theorem dX6_init_68 : decode cX6_init 68 = .ok (.aload_n 0, 1) := by decide +kernel
theorem dX6_init_69 : decode cX6_init 69 = .ok (.getfield 30, 3) := by decide +kernel
theorem dX6_init_72 : decode cX6_init 72 = .ok (.iload_n 1, 1) := by decide +kernel
theorem dX6_init_73 : decode cX6_init 73 = .ok (.new 17, 3) := by decide +kernel
theorem dX6_init_76 : decode cX6_init 76 = .ok (.dup, 1) := by decide +kernel
theorem dX6_init_77 : decode cX6_init 77 = .ok (.invokespecial 19, 3) := by decide +kernel
theorem dX6_init_80 : decode cX6_init 80 = .ok (.aastore, 1) := by decide +kernel
theorem dX6_init_81 : decode cX6_init 81 = .ok (.iinc 1 1, 3) := by decide +kernel
theorem dX6_init_84 : decode cX6_init 84 = .ok (.goto (-22), 3) := by decide +kernel
theorem dX6_init_87 : decode cX6_init 87 = .ok (.aload_n 0, 1) := by decide +kernel
theorem dX6_init_88 : decode cX6_init 88 = .ok (.new 34, 3) := by decide +kernel
theorem dX6_init_91 : decode cX6_init 91 = .ok (.dup, 1) := by decide +kernel
theorem dX6_init_92 : decode cX6_init 92 = .ok (.invokespecial 36, 3) := by decide +kernel
theorem dX6_init_95 : decode cX6_init 95 = .ok (.putfield 37, 3) := by decide +kernel
theorem dX6_init_98 : decode cX6_init 98 = .ok (.aload_n 0, 1) := by decide +kernel
theorem dX6_init_99 : decode cX6_init 99 = .ok (.new 41, 3) := by decide +kernel
theorem dX6_init_102 : decode cX6_init 102 = .ok (.dup, 1) := by decide +kernel
theorem dX6_init_103 : decode cX6_init 103 = .ok (.invokespecial 43, 3) := by decide +kernel
theorem dX6_init_106 : decode cX6_init 106 = .ok (.putfield 44, 3) := by decide +kernel
theorem dX6_init_109 : decode cX6_init 109 = .ok (.aload_n 0, 1) := by decide +kernel
theorem dX6_init_110 : decode cX6_init 110 = .ok (.new 48, 3) := by decide +kernel
theorem dX6_init_113 : decode cX6_init 113 = .ok (.dup, 1) := by decide +kernel
theorem dX6_init_114 : decode cX6_init 114 = .ok (.invokespecial 50, 3) := by decide +kernel
theorem dX6_init_117 : decode cX6_init 117 = .ok (.putfield 51, 3) := by decide +kernel
theorem dX6_init_120 : decode cX6_init 120 = .ok (.return_, 1) := by decide +kernel
theorem dX6_feed_0 : decode cX6_feed 0 = .ok (.aload_n 0, 1) := by decide +kernel
theorem dX6_feed_1 : decode cX6_feed 1 = .ok (.getfield 55, 3) := by decide +kernel
theorem dX6_feed_4 : decode cX6_feed 4 = .ok (.bipush 20, 2) := by decide +kernel
theorem dX6_feed_6 : decode cX6_feed 6 = .ok (.iadd, 1) := by decide +kernel
theorem dX6_feed_7 : decode cX6_feed 7 = .ok (.sipush 700, 3) := by decide +kernel
theorem dX6_feed_10 : decode cX6_feed 10 = .ok (.if_icmp .le 11, 3) := by decide +kernel
theorem dX6_feed_13 : decode cX6_feed 13 = .ok (.new 58, 3) := by decide +kernel
theorem dX6_feed_16 : decode cX6_feed 16 = .ok (.dup, 1) := by decide +kernel
theorem dX6_feed_17 : decode cX6_feed 17 = .ok (.invokespecial 60, 3) := by decide +kernel
theorem dX6_feed_20 : decode cX6_feed 20 = .ok (.athrow, 1) := by decide +kernel
theorem dX6_feed_21 : decode cX6_feed 21 = .ok (.aload_n 0, 1) := by decide +kernel
theorem dX6_feed_22 : decode cX6_feed 22 = .ok (.iload_n 1, 1) := by decide +kernel
theorem dX6_feed_23 : decode cX6_feed 23 = .ok (.invokevirtual 61, 3) := by decide +kernel
theorem dX6_feed_26 : decode cX6_feed 26 = .ok (.aload_n 0, 1) := by decide +kernel
theorem dX6_feed_27 : decode cX6_feed 27 = .ok (.iload_n 2, 1) := by decide +kernel
theorem dX6_feed_28 : decode cX6_feed 28 = .ok (.invokevirtual 61, 3) := by decide +kernel
theorem dX6_feed_31 : decode cX6_feed 31 = .ok (.aload_n 0, 1) := by decide +kernel
theorem dX6_feed_32 : decode cX6_feed 32 = .ok (.iload_n 3, 1) := by decide +kernel
theorem dX6_feed_33 : decode cX6_feed 33 = .ok (.invokevirtual 61, 3) := by decide +kernel
theorem dX6_feed_36 : decode cX6_feed 36 = .ok (.aload_n 0, 1) := by decide +kernel
theorem dX6_feed_37 : decode cX6_feed 37 = .ok (.iload 4, 2) := by decide +kernel
theorem dX6_feed_39 : decode cX6_feed 39 = .ok (.invokevirtual 61, 3) := by decide +kernel
theorem dX6_feed_42 : decode cX6_feed 42 = .ok (.aload_n 0, 1) := by decide +kernel
theorem dX6_feed_43 : decode cX6_feed 43 = .ok (.iload 5, 2) := by decide +kernel
theorem dX6_feed_45 : decode cX6_feed 45 = .ok (.invokevirtual 61, 3) := by decide +kernel
theorem dX6_feed_48 : decode cX6_feed 48 = .ok (.aload_n 0, 1) := by decide +kernel
theorem dX6_feed_49 : decode cX6_feed 49 = .ok (.getfield 55, 3) := by decide +kernel
theorem dX6_feed_52 : decode cX6_feed 52 = .ok (.ireturn, 1) := by decide +kernel
theorem dX6_append_0 : decode cX6_append 0 = .ok (.bipush 24, 2) := by decide +kernel
theorem dX6_append_2 : decode cX6_append 2 = .ok (.istore_n 2, 1) := by decide +kernel
theorem dX6_append_3 : decode cX6_append 3 = .ok (.iload_n 2, 1) := by decide +kernel
theorem dX6_append_4 : decode cX6_append 4 = .ok (.ifCond .lt 42, 3) := by decide +kernel
theorem dX6_append_7 : decode cX6_append 7 = .ok (.aload_n 0, 1) := by decide +kernel
theorem dX6_append_8 : decode cX6_append 8 = .ok (.getfield 55, 3) := by decide +kernel
theorem dX6_append_11 : decode cX6_append 11 = .ok (.sipush 700, 3) := by decide +kernel
theorem dX6_append_14 : decode cX6_append 14 = .ok (.if_icmp .ge 32, 3) := by decide +kernel
theorem dX6_append_17 : decode cX6_append 17 = .ok (.aload_n 0, 1) := by decide +kernel
theorem dX6_append_18 : decode cX6_append 18 = .ok (.getfield 9, 3) := by decide +kernel
theorem dX6_append_21 : decode cX6_append 21 = .ok (.aload_n 0, 1) := by decide +kernel
theorem dX6_append_22 : decode cX6_append 22 = .ok (.getfield 55, 3) := by decide +kernel
theorem dX6_append_25 : decode cX6_append 25 = .ok (.iload_n 1, 1) := by decide +kernel
theorem dX6_append_26 : decode cX6_append 26 = .ok (.iload_n 2, 1) := by decide +kernel
theorem dX6_append_27 : decode cX6_append 27 = .ok (.iushr, 1) := by decide +kernel
theorem dX6_append_28 : decode cX6_append 28 = .ok (.i2b, 1) := by decide +kernel
theorem dX6_append_29 : decode cX6_append 29 = .ok (.bastore, 1) := by decide +kernel
theorem dX6_append_30 : decode cX6_append 30 = .ok (.aload_n 0, 1) := by decide +kernel
theorem dX6_append_31 : decode cX6_append 31 = .ok (.dup, 1) := by decide +kernel
theorem dX6_append_32 : decode cX6_append 32 = .ok (.getfield 55, 3) := by decide +kernel
theorem dX6_append_35 : decode cX6_append 35 = .ok (.iconst 1, 1) := by decide +kernel
theorem dX6_append_36 : decode cX6_append 36 = .ok (.iadd, 1) := by decide +kernel
theorem dX6_append_37 : decode cX6_append 37 = .ok (.putfield 55, 3) := by decide +kernel
theorem dX6_append_40 : decode cX6_append 40 = .ok (.iinc 2 (-8), 3) := by decide +kernel
theorem dX6_append_43 : decode cX6_append 43 = .ok (.goto (-40), 3) := by decide +kernel
theorem dX6_append_46 : decode cX6_append 46 = .ok (.return_, 1) := by decide +kernel
theorem dX6_truncate_0 : decode cX6_truncate 0 = .ok (.iload_n 1, 1) := by decide +kernel
theorem dX6_truncate_1 : decode cX6_truncate 1 = .ok (.ifCond .lt 11, 3) := by decide +kernel
theorem dX6_truncate_4 : decode cX6_truncate 4 = .ok (.iload_n 1, 1) := by decide +kernel
theorem dX6_truncate_5 : decode cX6_truncate 5 = .ok (.aload_n 0, 1) := by decide +kernel
theorem dX6_truncate_6 : decode cX6_truncate 6 = .ok (.getfield 55, 3) := by decide +kernel
theorem dX6_truncate_9 : decode cX6_truncate 9 = .ok (.if_icmp .le 11, 3) := by decide +kernel
theorem dX6_truncate_12 : decode cX6_truncate 12 = .ok (.new 65, 3) := by decide +kernel
theorem dX6_truncate_15 : decode cX6_truncate 15 = .ok (.dup, 1) := by decide +kernel
theorem dX6_truncate_16 : decode cX6_truncate 16 = .ok (.invokespecial 67, 3) := by decide +kernel
theorem dX6_truncate_19 : decode cX6_truncate 19 = .ok (.athrow, 1) := by decide +kernel
theorem dX6_truncate_20 : decode cX6_truncate 20 = .ok (.aload_n 0, 1) := by decide +kernel
theorem dX6_truncate_21 : decode cX6_truncate 21 = .ok (.iload_n 1, 1) := by decide +kernel
theorem dX6_truncate_22 : decode cX6_truncate 22 = .ok (.putfield 55, 3) := by decide +kernel
theorem dX6_truncate_25 : decode cX6_truncate 25 = .ok (.iload_n 1, 1) := by decide +kernel
theorem dX6_truncate_26 : decode cX6_truncate 26 = .ok (.ireturn, 1) := by decide +kernel
theorem dX6_readText_0 : decode cX6_readText 0 = .ok (.aload_n 0, 1) := by decide +kernel
theorem dX6_readText_1 : decode cX6_readText 1 = .ok (.getfield 44, 3) := by decide +kernel
theorem dX6_readText_4 : decode cX6_readText 4 = .ok (.getfield 68, 3) := by decide +kernel
theorem dX6_readText_7 : decode cX6_readText 7 = .ok (.aload_n 0, 1) := by decide +kernel
theorem dX6_readText_8 : decode cX6_readText 8 = .ok (.getfield 9, 3) := by decide +kernel
theorem dX6_readText_11 : decode cX6_readText 11 = .ok (.aload_n 0, 1) := by decide +kernel
theorem dX6_readText_12 : decode cX6_readText 12 = .ok (.getfield 55, 3) := by decide +kernel
theorem dX6_readText_15 : decode cX6_readText 15 = .ok (.invokevirtual 72, 3) := by decide +kernel
theorem dX6_readText_18 : decode cX6_readText 18 = .ok (.aload_n 0, 1) := by decide +kernel
theorem dX6_readText_19 : decode cX6_readText 19 = .ok (.getfield 44, 3) := by decide +kernel
theorem dX6_readText_22 : decode cX6_readText 22 = .ok (.aload_n 0, 1) := by decide +kernel
theorem dX6_readText_23 : decode cX6_readText 23 = .ok (.getfield 24, 3) := by decide +kernel
theorem dX6_readText_26 : decode cX6_readText 26 = .ok (.invokevirtual 78, 3) := by decide +kernel
theorem dX6_readText_29 : decode cX6_readText 29 = .ok (.istore_n 1, 1) := by decide +kernel
theorem dX6_readText_30 : decode cX6_readText 30 = .ok (.aload_n 0, 1) := by decide +kernel
theorem dX6_readText_31 : decode cX6_readText 31 = .ok (.aload_n 0, 1) := by decide +kernel
theorem dX6_readText_32 : decode cX6_readText 32 = .ok (.getfield 44, 3) := by decide +kernel
theorem dX6_readText_35 : decode cX6_readText 35 = .ok (.getfield 68, 3) := by decide +kernel
theorem dX6_readText_38 : decode cX6_readText 38 = .ok (.invokevirtual 82, 3) := by decide +kernel
theorem dX6_readText_41 : decode cX6_readText 41 = .ok (.iload_n 1, 1) := by decide +kernel
theorem dX6_readText_42 : decode cX6_readText 42 = .ok (.ifCond .ne 11, 3) := by decide +kernel
theorem dX6_readText_45 : decode cX6_readText 45 = .ok (.new 65, 3) := by decide +kernel
theorem dX6_readText_48 : decode cX6_readText 48 = .ok (.dup, 1) := by decide +kernel
theorem dX6_readText_49 : decode cX6_readText 49 = .ok (.invokespecial 67, 3) := by decide +kernel
theorem dX6_readText_52 : decode cX6_readText 52 = .ok (.athrow, 1) := by decide +kernel
theorem dX6_readText_53 : decode cX6_readText 53 = .ok (.aload_n 0, 1) := by decide +kernel
theorem dX6_readText_54 : decode cX6_readText 54 = .ok (.getfield 20, 3) := by decide +kernel
theorem dX6_readText_57 : decode cX6_readText 57 = .ok (.aload_n 0, 1) := by decide +kernel
theorem dX6_readText_58 : decode cX6_readText 58 = .ok (.getfield 24, 3) := by decide +kernel
theorem dX6_readText_61 : decode cX6_readText 61 = .ok (.invokevirtual 86, 3) := by decide +kernel
theorem dX6_readText_64 : decode cX6_readText 64 = .ok (.aload_n 0, 1) := by decide +kernel
theorem dX6_readText_65 : decode cX6_readText 65 = .ok (.iconst 0, 1) := by decide +kernel
theorem dX6_readText_66 : decode cX6_readText 66 = .ok (.putfield 90, 3) := by decide +kernel
theorem dX6_readText_69 : decode cX6_readText 69 = .ok (.aload_n 0, 1) := by decide +kernel
theorem dX6_readText_70 : decode cX6_readText 70 = .ok (.getfield 20, 3) := by decide +kernel
theorem dX6_readText_73 : decode cX6_readText 73 = .ok (.getfield 93, 3) := by decide +kernel
theorem dX6_readText_76 : decode cX6_readText 76 = .ok (.ireturn, 1) := by decide +kernel
theorem dX6_endReading_0 : decode cX6_endReading 0 = .ok (.aload_n 0, 1) := by decide +kernel
theorem dX6_endReading_1 : decode cX6_endReading 1 = .ok (.iconst 0, 1) := by decide +kernel
theorem dX6_endReading_2 : decode cX6_endReading 2 = .ok (.putfield 55, 3) := by decide +kernel
theorem dX6_endReading_5 : decode cX6_endReading 5 = .ok (.aload_n 0, 1) := by decide +kernel
theorem dX6_endReading_6 : decode cX6_endReading 6 = .ok (.aload_n 1, 1) := by decide +kernel
theorem dX6_endReading_7 : decode cX6_endReading 7 = .ok (.getfield 105, 3) := by decide +kernel
theorem dX6_endReading_10 : decode cX6_endReading 10 = .ok (.putfield 108, 3) := by decide +kernel
theorem dX6_endReading_13 : decode cX6_endReading 13 = .ok (.aload_n 0, 1) := by decide +kernel
theorem dX6_endReading_14 : decode cX6_endReading 14 = .ok (.aload_n 1, 1) := by decide +kernel
theorem dX6_endReading_15 : decode cX6_endReading 15 = .ok (.getfield 109, 3) := by decide +kernel
theorem dX6_endReading_18 : decode cX6_endReading 18 = .ok (.putfield 13, 3) := by decide +kernel
theorem dX6_endReading_21 : decode cX6_endReading 21 = .ok (.return_, 1) := by decide +kernel
theorem dX6_setting_0 : decode cX6_setting 0 = .ok (.iload_n 1, 1) := by decide +kernel
theorem dX6_setting_1 : decode cX6_setting 1 = .ok (.tableswitch 146 0 10 #[59, 67, 77, 85, 93, 101, 109, 117, 125, 133, 141], 59) := by decide +kernel
theorem dX6_setting_60 : decode cX6_setting 60 = .ok (.aload_n 0, 1) := by decide +kernel
theorem dX6_setting_61 : decode cX6_setting 61 = .ok (.getfield 20, 3) := by decide +kernel
theorem dX6_setting_64 : decode cX6_setting 64 = .ok (.getfield 93, 3) := by decide +kernel
theorem dX6_setting_67 : decode cX6_setting 67 = .ok (.ireturn, 1) := by decide +kernel
theorem dX6_setting_68 : decode cX6_setting 68 = .ok (.aload_n 0, 1) := by decide +kernel
theorem dX6_setting_69 : decode cX6_setting 69 = .ok (.getfield 20, 3) := by decide +kernel
theorem dX6_setting_72 : decode cX6_setting 72 = .ok (.invokevirtual 110, 3) := by decide +kernel
theorem dX6_setting_75 : decode cX6_setting 75 = .ok (.iconst 2, 1) := by decide +kernel
theorem dX6_setting_76 : decode cX6_setting 76 = .ok (.idiv, 1) := by decide +kernel
theorem dX6_setting_77 : decode cX6_setting 77 = .ok (.ireturn, 1) := by decide +kernel
theorem dX6_setting_78 : decode cX6_setting 78 = .ok (.aload_n 0, 1) := by decide +kernel
theorem dX6_setting_79 : decode cX6_setting 79 = .ok (.getfield 20, 3) := by decide +kernel
theorem dX6_setting_82 : decode cX6_setting 82 = .ok (.getfield 114, 3) := by decide +kernel
theorem dX6_setting_85 : decode cX6_setting 85 = .ok (.ireturn, 1) := by decide +kernel
theorem dX6_setting_86 : decode cX6_setting 86 = .ok (.aload_n 0, 1) := by decide +kernel
theorem dX6_setting_87 : decode cX6_setting 87 = .ok (.getfield 20, 3) := by decide +kernel
theorem dX6_setting_90 : decode cX6_setting 90 = .ok (.getfield 117, 3) := by decide +kernel
theorem dX6_setting_93 : decode cX6_setting 93 = .ok (.ireturn, 1) := by decide +kernel
theorem dX6_setting_94 : decode cX6_setting 94 = .ok (.aload_n 0, 1) := by decide +kernel
theorem dX6_setting_95 : decode cX6_setting 95 = .ok (.getfield 20, 3) := by decide +kernel
theorem dX6_setting_98 : decode cX6_setting 98 = .ok (.getfield 120, 3) := by decide +kernel
theorem dX6_setting_101 : decode cX6_setting 101 = .ok (.ireturn, 1) := by decide +kernel
theorem dX6_setting_102 : decode cX6_setting 102 = .ok (.aload_n 0, 1) := by decide +kernel
theorem dX6_setting_103 : decode cX6_setting 103 = .ok (.getfield 20, 3) := by decide +kernel
theorem dX6_setting_106 : decode cX6_setting 106 = .ok (.getfield 123, 3) := by decide +kernel
theorem dX6_setting_109 : decode cX6_setting 109 = .ok (.ireturn, 1) := by decide +kernel
theorem dX6_setting_110 : decode cX6_setting 110 = .ok (.aload_n 0, 1) := by decide +kernel
theorem dX6_setting_111 : decode cX6_setting 111 = .ok (.getfield 20, 3) := by decide +kernel
theorem dX6_setting_114 : decode cX6_setting 114 = .ok (.getfield 126, 3) := by decide +kernel
theorem dX6_setting_117 : decode cX6_setting 117 = .ok (.ireturn, 1) := by decide +kernel
theorem dX6_setting_118 : decode cX6_setting 118 = .ok (.aload_n 0, 1) := by decide +kernel
theorem dX6_setting_119 : decode cX6_setting 119 = .ok (.getfield 20, 3) := by decide +kernel
theorem dX6_setting_122 : decode cX6_setting 122 = .ok (.getfield 129, 3) := by decide +kernel
theorem dX6_setting_125 : decode cX6_setting 125 = .ok (.ireturn, 1) := by decide +kernel
theorem dX6_setting_126 : decode cX6_setting 126 = .ok (.aload_n 0, 1) := by decide +kernel
theorem dX6_setting_127 : decode cX6_setting 127 = .ok (.getfield 20, 3) := by decide +kernel
theorem dX6_setting_130 : decode cX6_setting 130 = .ok (.invokevirtual 132, 3) := by decide +kernel
theorem dX6_setting_133 : decode cX6_setting 133 = .ok (.ireturn, 1) := by decide +kernel
theorem dX6_setting_134 : decode cX6_setting 134 = .ok (.aload_n 0, 1) := by decide +kernel
theorem dX6_setting_135 : decode cX6_setting 135 = .ok (.getfield 20, 3) := by decide +kernel
theorem dX6_setting_138 : decode cX6_setting 138 = .ok (.getfield 135, 3) := by decide +kernel
theorem dX6_setting_141 : decode cX6_setting 141 = .ok (.ireturn, 1) := by decide +kernel
theorem dX6_setting_142 : decode cX6_setting 142 = .ok (.aload_n 0, 1) := by decide +kernel
theorem dX6_setting_143 : decode cX6_setting 143 = .ok (.getfield 90, 3) := by decide +kernel
theorem dX6_setting_146 : decode cX6_setting 146 = .ok (.ireturn, 1) := by decide +kernel
theorem dX6_setting_147 : decode cX6_setting 147 = .ok (.new 65, 3) := by decide +kernel
theorem dX6_setting_150 : decode cX6_setting 150 = .ok (.dup, 1) := by decide +kernel
theorem dX6_setting_151 : decode cX6_setting 151 = .ok (.invokespecial 67, 3) := by decide +kernel
theorem dX6_setting_154 : decode cX6_setting 154 = .ok (.athrow, 1) := by decide +kernel
theorem dX6_beacon_0 : decode cX6_beacon 0 = .ok (.aload_n 0, 1) := by decide +kernel
theorem dX6_beacon_1 : decode cX6_beacon 1 = .ok (.iload_n 1, 1) := by decide +kernel
theorem dX6_beacon_2 : decode cX6_beacon 2 = .ok (.invokevirtual 138, 3) := by decide +kernel
theorem dX6_beacon_5 : decode cX6_beacon 5 = .ok (.aload_n 0, 1) := by decide +kernel
theorem dX6_beacon_6 : decode cX6_beacon 6 = .ok (.getfield 20, 3) := by decide +kernel
theorem dX6_beacon_9 : decode cX6_beacon 9 = .ok (.getfield 141, 3) := by decide +kernel
theorem dX6_beacon_12 : decode cX6_beacon 12 = .ok (.iload_n 1, 1) := by decide +kernel
theorem dX6_beacon_13 : decode cX6_beacon 13 = .ok (.aaload, 1) := by decide +kernel
theorem dX6_beacon_14 : decode cX6_beacon 14 = .ok (.astore_n 3, 1) := by decide +kernel
theorem dX6_beacon_15 : decode cX6_beacon 15 = .ok (.iload_n 2, 1) := by decide +kernel
theorem dX6_beacon_16 : decode cX6_beacon 16 = .ok (.tableswitch 154 0 13 #[72, 77, 82, 87, 92, 97, 102, 107, 112, 125, 130, 139, 144, 149], 72) := by decide +kernel
theorem dX6_beacon_88 : decode cX6_beacon 88 = .ok (.aload_n 3, 1) := by decide +kernel
theorem dX6_beacon_89 : decode cX6_beacon 89 = .ok (.getfield 145, 3) := by decide +kernel
theorem dX6_beacon_92 : decode cX6_beacon 92 = .ok (.ireturn, 1) := by decide +kernel
theorem dX6_beacon_93 : decode cX6_beacon 93 = .ok (.aload_n 3, 1) := by decide +kernel
theorem dX6_beacon_94 : decode cX6_beacon 94 = .ok (.getfield 150, 3) := by decide +kernel
theorem dX6_beacon_97 : decode cX6_beacon 97 = .ok (.ireturn, 1) := by decide +kernel
theorem dX6_beacon_98 : decode cX6_beacon 98 = .ok (.aload_n 3, 1) := by decide +kernel
theorem dX6_beacon_99 : decode cX6_beacon 99 = .ok (.getfield 153, 3) := by decide +kernel
theorem dX6_beacon_102 : decode cX6_beacon 102 = .ok (.ireturn, 1) := by decide +kernel
theorem dX6_beacon_103 : decode cX6_beacon 103 = .ok (.aload_n 3, 1) := by decide +kernel
theorem dX6_beacon_104 : decode cX6_beacon 104 = .ok (.getfield 156, 3) := by decide +kernel
theorem dX6_beacon_107 : decode cX6_beacon 107 = .ok (.ireturn, 1) := by decide +kernel
theorem dX6_beacon_108 : decode cX6_beacon 108 = .ok (.aload_n 3, 1) := by decide +kernel
theorem dX6_beacon_109 : decode cX6_beacon 109 = .ok (.getfield 159, 3) := by decide +kernel
theorem dX6_beacon_112 : decode cX6_beacon 112 = .ok (.ireturn, 1) := by decide +kernel
theorem dX6_beacon_113 : decode cX6_beacon 113 = .ok (.aload_n 3, 1) := by decide +kernel
theorem dX6_beacon_114 : decode cX6_beacon 114 = .ok (.getfield 162, 3) := by decide +kernel
theorem dX6_beacon_117 : decode cX6_beacon 117 = .ok (.ireturn, 1) := by decide +kernel
theorem dX6_beacon_118 : decode cX6_beacon 118 = .ok (.aload_n 3, 1) := by decide +kernel
theorem dX6_beacon_119 : decode cX6_beacon 119 = .ok (.getfield 165, 3) := by decide +kernel
theorem dX6_beacon_122 : decode cX6_beacon 122 = .ok (.ireturn, 1) := by decide +kernel
theorem dX6_beacon_123 : decode cX6_beacon 123 = .ok (.aload_n 3, 1) := by decide +kernel
theorem dX6_beacon_124 : decode cX6_beacon 124 = .ok (.getfield 168, 3) := by decide +kernel
theorem dX6_beacon_127 : decode cX6_beacon 127 = .ok (.ireturn, 1) := by decide +kernel
theorem dX6_beacon_128 : decode cX6_beacon 128 = .ok (.aload_n 3, 1) := by decide +kernel
theorem dX6_beacon_129 : decode cX6_beacon 129 = .ok (.getfield 171, 3) := by decide +kernel
theorem dX6_beacon_132 : decode cX6_beacon 132 = .ok (.ifCond .eq 7, 3) := by decide +kernel
theorem dX6_beacon_135 : decode cX6_beacon 135 = .ok (.iconst 1, 1) := by decide +kernel
theorem dX6_beacon_136 : decode cX6_beacon 136 = .ok (.goto 4, 3) := by decide +kernel
theorem dX6_beacon_139 : decode cX6_beacon 139 = .ok (.iconst 0, 1) := by decide +kernel
theorem dX6_beacon_140 : decode cX6_beacon 140 = .ok (.ireturn, 1) := by decide +kernel
theorem dX6_beacon_141 : decode cX6_beacon 141 = .ok (.aload_n 3, 1) := by decide +kernel
theorem dX6_beacon_142 : decode cX6_beacon 142 = .ok (.getfield 175, 3) := by decide +kernel
theorem dX6_beacon_145 : decode cX6_beacon 145 = .ok (.ireturn, 1) := by decide +kernel
theorem dX6_beacon_146 : decode cX6_beacon 146 = .ok (.aload_n 0, 1) := by decide +kernel
theorem dX6_beacon_147 : decode cX6_beacon 147 = .ok (.getfield 20, 3) := by decide +kernel
theorem dX6_beacon_150 : decode cX6_beacon 150 = .ok (.aload_n 3, 1) := by decide +kernel
theorem dX6_beacon_151 : decode cX6_beacon 151 = .ok (.invokevirtual 178, 3) := by decide +kernel
theorem dX6_beacon_154 : decode cX6_beacon 154 = .ok (.ireturn, 1) := by decide +kernel
theorem dX6_beacon_155 : decode cX6_beacon 155 = .ok (.aload_n 3, 1) := by decide +kernel
theorem dX6_beacon_156 : decode cX6_beacon 156 = .ok (.getfield 182, 3) := by decide +kernel
theorem dX6_beacon_159 : decode cX6_beacon 159 = .ok (.ireturn, 1) := by decide +kernel
theorem dX6_beacon_160 : decode cX6_beacon 160 = .ok (.aload_n 3, 1) := by decide +kernel
theorem dX6_beacon_161 : decode cX6_beacon 161 = .ok (.getfield 183, 3) := by decide +kernel
theorem dX6_beacon_164 : decode cX6_beacon 164 = .ok (.ireturn, 1) := by decide +kernel
theorem dX6_beacon_165 : decode cX6_beacon 165 = .ok (.aload_n 3, 1) := by decide +kernel
theorem dX6_beacon_166 : decode cX6_beacon 166 = .ok (.getfield 184, 3) := by decide +kernel
theorem dX6_beacon_169 : decode cX6_beacon 169 = .ok (.ireturn, 1) := by decide +kernel
theorem dX6_beacon_170 : decode cX6_beacon 170 = .ok (.new 65, 3) := by decide +kernel
theorem dX6_beacon_173 : decode cX6_beacon 173 = .ok (.dup, 1) := by decide +kernel
theorem dX6_beacon_174 : decode cX6_beacon 174 = .ok (.invokespecial 67, 3) := by decide +kernel
theorem dX6_beacon_177 : decode cX6_beacon 177 = .ok (.athrow, 1) := by decide +kernel
theorem dX6_slots_0 : decode cX6_slots 0 = .ok (.aload_n 0, 1) := by decide +kernel
theorem dX6_slots_1 : decode cX6_slots 1 = .ok (.iload_n 1, 1) := by decide +kernel
theorem dX6_slots_2 : decode cX6_slots 2 = .ok (.invokevirtual 138, 3) := by decide +kernel
theorem dX6_slots_5 : decode cX6_slots 5 = .ok (.iload_n 2, 1) := by decide +kernel
theorem dX6_slots_6 : decode cX6_slots 6 = .ok (.ifCond .lt 8, 3) := by decide +kernel
theorem dX6_slots_9 : decode cX6_slots 9 = .ok (.iload_n 2, 1) := by decide +kernel
theorem dX6_slots_10 : decode cX6_slots 10 = .ok (.iconst 4, 1) := by decide +kernel
theorem dX6_slots_11 : decode cX6_slots 11 = .ok (.if_icmp .lt 11, 3) := by decide +kernel
theorem dX6_slots_14 : decode cX6_slots 14 = .ok (.new 65, 3) := by decide +kernel
theorem dX6_slots_17 : decode cX6_slots 17 = .ok (.dup, 1) := by decide +kernel
theorem dX6_slots_18 : decode cX6_slots 18 = .ok (.invokespecial 67, 3) := by decide +kernel
theorem dX6_slots_21 : decode cX6_slots 21 = .ok (.athrow, 1) := by decide +kernel
theorem dX6_slots_22 : decode cX6_slots 22 = .ok (.aload_n 0, 1) := by decide +kernel
theorem dX6_slots_23 : decode cX6_slots 23 = .ok (.getfield 20, 3) := by decide +kernel
theorem dX6_slots_26 : decode cX6_slots 26 = .ok (.getfield 141, 3) := by decide +kernel
theorem dX6_slots_29 : decode cX6_slots 29 = .ok (.iload_n 1, 1) := by decide +kernel
theorem dX6_slots_30 : decode cX6_slots 30 = .ok (.aaload, 1) := by decide +kernel
theorem dX6_slots_31 : decode cX6_slots 31 = .ok (.getfield 187, 3) := by decide +kernel
theorem dX6_slots_34 : decode cX6_slots 34 = .ok (.iload_n 2, 1) := by decide +kernel
theorem dX6_slots_35 : decode cX6_slots 35 = .ok (.iaload, 1) := by decide +kernel
theorem dX6_slots_36 : decode cX6_slots 36 = .ok (.ireturn, 1) := by decide +kernel
theorem dX6_reckoned_0 : decode cX6_reckoned 0 = .ok (.aload_n 0, 1) := by decide +kernel
theorem dX6_reckoned_1 : decode cX6_reckoned 1 = .ok (.iload_n 1, 1) := by decide +kernel
theorem dX6_reckoned_2 : decode cX6_reckoned 2 = .ok (.invokevirtual 138, 3) := by decide +kernel
theorem dX6_reckoned_5 : decode cX6_reckoned 5 = .ok (.iconst 0, 1) := by decide +kernel
theorem dX6_reckoned_6 : decode cX6_reckoned 6 = .ok (.istore_n 2, 1) := by decide +kernel
theorem dX6_reckoned_7 : decode cX6_reckoned 7 = .ok (.iconst 0, 1) := by decide +kernel
theorem dX6_reckoned_8 : decode cX6_reckoned 8 = .ok (.istore_n 3, 1) := by decide +kernel
theorem dX6_reckoned_9 : decode cX6_reckoned 9 = .ok (.iload_n 3, 1) := by decide +kernel
theorem dX6_reckoned_10 : decode cX6_reckoned 10 = .ok (.iconst 4, 1) := by decide +kernel
theorem dX6_reckoned_11 : decode cX6_reckoned 11 = .ok (.if_icmp .ge 36, 3) := by decide +kernel
theorem dX6_reckoned_14 : decode cX6_reckoned 14 = .ok (.iload_n 2, 1) := by decide +kernel
theorem dX6_reckoned_15 : decode cX6_reckoned 15 = .ok (.aload_n 0, 1) := by decide +kernel
theorem dX6_reckoned_16 : decode cX6_reckoned 16 = .ok (.getfield 20, 3) := by decide +kernel
theorem dX6_reckoned_19 : decode cX6_reckoned 19 = .ok (.getfield 141, 3) := by decide +kernel
theorem dX6_reckoned_22 : decode cX6_reckoned 22 = .ok (.iload_n 1, 1) := by decide +kernel
theorem dX6_reckoned_23 : decode cX6_reckoned 23 = .ok (.aaload, 1) := by decide +kernel
theorem dX6_reckoned_24 : decode cX6_reckoned 24 = .ok (.getfield 187, 3) := by decide +kernel
theorem dX6_reckoned_27 : decode cX6_reckoned 27 = .ok (.iload_n 3, 1) := by decide +kernel
theorem dX6_reckoned_28 : decode cX6_reckoned 28 = .ok (.iaload, 1) := by decide +kernel
theorem dX6_reckoned_29 : decode cX6_reckoned 29 = .ok (.aload_n 0, 1) := by decide +kernel
theorem dX6_reckoned_30 : decode cX6_reckoned 30 = .ok (.getfield 20, 3) := by decide +kernel
theorem dX6_reckoned_33 : decode cX6_reckoned 33 = .ok (.getfield 191, 3) := by decide +kernel
theorem dX6_reckoned_36 : decode cX6_reckoned 36 = .ok (.iload_n 3, 1) := by decide +kernel
theorem dX6_reckoned_37 : decode cX6_reckoned 37 = .ok (.iaload, 1) := by decide +kernel
theorem dX6_reckoned_38 : decode cX6_reckoned 38 = .ok (.imul, 1) := by decide +kernel
theorem dX6_reckoned_39 : decode cX6_reckoned 39 = .ok (.iadd, 1) := by decide +kernel
theorem dX6_reckoned_40 : decode cX6_reckoned 40 = .ok (.istore_n 2, 1) := by decide +kernel
theorem dX6_reckoned_41 : decode cX6_reckoned 41 = .ok (.iinc 3 1, 3) := by decide +kernel
theorem dX6_reckoned_44 : decode cX6_reckoned 44 = .ok (.goto (-35), 3) := by decide +kernel
theorem dX6_reckoned_47 : decode cX6_reckoned 47 = .ok (.iload_n 2, 1) := by decide +kernel
theorem dX6_reckoned_48 : decode cX6_reckoned 48 = .ok (.ireturn, 1) := by decide +kernel
theorem dX6_heard_0 : decode cX6_heard 0 = .ok (.aload_n 0, 1) := by decide +kernel
theorem dX6_heard_1 : decode cX6_heard 1 = .ok (.iload_n 1, 1) := by decide +kernel
theorem dX6_heard_2 : decode cX6_heard 2 = .ok (.invokevirtual 138, 3) := by decide +kernel
theorem dX6_heard_5 : decode cX6_heard 5 = .ok (.aload_n 0, 1) := by decide +kernel
theorem dX6_heard_6 : decode cX6_heard 6 = .ok (.iload_n 2, 1) := by decide +kernel
theorem dX6_heard_7 : decode cX6_heard 7 = .ok (.invokevirtual 138, 3) := by decide +kernel
theorem dX6_heard_10 : decode cX6_heard 10 = .ok (.aload_n 0, 1) := by decide +kernel
theorem dX6_heard_11 : decode cX6_heard 11 = .ok (.getfield 20, 3) := by decide +kernel
theorem dX6_heard_14 : decode cX6_heard 14 = .ok (.getfield 141, 3) := by decide +kernel
theorem dX6_heard_17 : decode cX6_heard 17 = .ok (.iload_n 1, 1) := by decide +kernel
theorem dX6_heard_18 : decode cX6_heard 18 = .ok (.aaload, 1) := by decide +kernel
theorem dX6_heard_19 : decode cX6_heard 19 = .ok (.getfield 202, 3) := by decide +kernel
theorem dX6_heard_22 : decode cX6_heard 22 = .ok (.iload_n 2, 1) := by decide +kernel
theorem dX6_heard_23 : decode cX6_heard 23 = .ok (.iaload, 1) := by decide +kernel
theorem dX6_heard_24 : decode cX6_heard 24 = .ok (.ireturn, 1) := by decide +kernel
theorem dX6_knows_0 : decode cX6_knows 0 = .ok (.aload_n 0, 1) := by decide +kernel
theorem dX6_knows_1 : decode cX6_knows 1 = .ok (.iload_n 1, 1) := by decide +kernel
theorem dX6_knows_2 : decode cX6_knows 2 = .ok (.invokevirtual 138, 3) := by decide +kernel
theorem dX6_knows_5 : decode cX6_knows 5 = .ok (.aload_n 0, 1) := by decide +kernel
theorem dX6_knows_6 : decode cX6_knows 6 = .ok (.iload_n 2, 1) := by decide +kernel
theorem dX6_knows_7 : decode cX6_knows 7 = .ok (.invokevirtual 138, 3) := by decide +kernel
theorem dX6_knows_10 : decode cX6_knows 10 = .ok (.aload_n 0, 1) := by decide +kernel
theorem dX6_knows_11 : decode cX6_knows 11 = .ok (.getfield 20, 3) := by decide +kernel
theorem dX6_knows_14 : decode cX6_knows 14 = .ok (.aload_n 0, 1) := by decide +kernel
theorem dX6_knows_15 : decode cX6_knows 15 = .ok (.getfield 20, 3) := by decide +kernel
theorem dX6_knows_18 : decode cX6_knows 18 = .ok (.getfield 141, 3) := by decide +kernel
theorem dX6_knows_21 : decode cX6_knows 21 = .ok (.iload_n 1, 1) := by decide +kernel
theorem dX6_knows_22 : decode cX6_knows 22 = .ok (.aaload, 1) := by decide +kernel
theorem dX6_knows_23 : decode cX6_knows 23 = .ok (.invokevirtual 178, 3) := by decide +kernel
theorem dX6_knows_26 : decode cX6_knows 26 = .ok (.iload_n 2, 1) := by decide +kernel
theorem dX6_knows_27 : decode cX6_knows 27 = .ok (.invokestatic 205, 3) := by decide +kernel
theorem dX6_knows_30 : decode cX6_knows 30 = .ok (.ireturn, 1) := by decide +kernel
theorem dX6_whyNot_0 : decode cX6_whyNot 0 = .ok (.aload_n 0, 1) := by decide +kernel
theorem dX6_whyNot_1 : decode cX6_whyNot 1 = .ok (.iload_n 1, 1) := by decide +kernel
theorem dX6_whyNot_2 : decode cX6_whyNot 2 = .ok (.invokevirtual 138, 3) := by decide +kernel
theorem dX6_whyNot_5 : decode cX6_whyNot 5 = .ok (.aload_n 0, 1) := by decide +kernel
theorem dX6_whyNot_6 : decode cX6_whyNot 6 = .ok (.iload_n 2, 1) := by decide +kernel
theorem dX6_whyNot_7 : decode cX6_whyNot 7 = .ok (.invokevirtual 138, 3) := by decide +kernel
theorem dX6_whyNot_10 : decode cX6_whyNot 10 = .ok (.iload_n 1, 1) := by decide +kernel
theorem dX6_whyNot_11 : decode cX6_whyNot 11 = .ok (.iload_n 2, 1) := by decide +kernel
theorem dX6_whyNot_12 : decode cX6_whyNot 12 = .ok (.if_icmp .ne 7, 3) := by decide +kernel
theorem dX6_whyNot_15 : decode cX6_whyNot 15 = .ok (.iconst 5, 1) := by decide +kernel
theorem dX6_whyNot_16 : decode cX6_whyNot 16 = .ok (.goto 17, 3) := by decide +kernel
theorem dX6_whyNot_19 : decode cX6_whyNot 19 = .ok (.aload_n 0, 1) := by decide +kernel
theorem dX6_whyNot_20 : decode cX6_whyNot 20 = .ok (.getfield 20, 3) := by decide +kernel
theorem dX6_whyNot_23 : decode cX6_whyNot 23 = .ok (.getfield 141, 3) := by decide +kernel
theorem dX6_whyNot_26 : decode cX6_whyNot 26 = .ok (.iload_n 1, 1) := by decide +kernel
theorem dX6_whyNot_27 : decode cX6_whyNot 27 = .ok (.aaload, 1) := by decide +kernel
theorem dX6_whyNot_28 : decode cX6_whyNot 28 = .ok (.getfield 218, 3) := by decide +kernel
theorem dX6_whyNot_31 : decode cX6_whyNot 31 = .ok (.iload_n 2, 1) := by decide +kernel
theorem dX6_whyNot_32 : decode cX6_whyNot 32 = .ok (.iaload, 1) := by decide +kernel
theorem dX6_whyNot_33 : decode cX6_whyNot 33 = .ok (.ireturn, 1) := by decide +kernel
theorem dX6_dueIn_0 : decode cX6_dueIn 0 = .ok (.aload_n 0, 1) := by decide +kernel
theorem dX6_dueIn_1 : decode cX6_dueIn 1 = .ok (.iload_n 1, 1) := by decide +kernel
theorem dX6_dueIn_2 : decode cX6_dueIn 2 = .ok (.invokevirtual 138, 3) := by decide +kernel
theorem dX6_dueIn_5 : decode cX6_dueIn 5 = .ok (.aload_n 0, 1) := by decide +kernel
theorem dX6_dueIn_6 : decode cX6_dueIn 6 = .ok (.getfield 20, 3) := by decide +kernel
theorem dX6_dueIn_9 : decode cX6_dueIn 9 = .ok (.getfield 141, 3) := by decide +kernel
theorem dX6_dueIn_12 : decode cX6_dueIn 12 = .ok (.iload_n 1, 1) := by decide +kernel
theorem dX6_dueIn_13 : decode cX6_dueIn 13 = .ok (.aaload, 1) := by decide +kernel
theorem dX6_dueIn_14 : decode cX6_dueIn 14 = .ok (.aload_n 0, 1) := by decide +kernel
theorem dX6_dueIn_15 : decode cX6_dueIn 15 = .ok (.getfield 20, 3) := by decide +kernel
theorem dX6_dueIn_18 : decode cX6_dueIn 18 = .ok (.getfield 114, 3) := by decide +kernel
theorem dX6_dueIn_21 : decode cX6_dueIn 21 = .ok (.invokevirtual 221, 3) := by decide +kernel
theorem dX6_dueIn_24 : decode cX6_dueIn 24 = .ok (.ireturn, 1) := by decide +kernel
theorem dX6_hops_0 : decode cX6_hops 0 = .ok (.aload_n 0, 1) := by decide +kernel
theorem dX6_hops_1 : decode cX6_hops 1 = .ok (.iload_n 1, 1) := by decide +kernel
theorem dX6_hops_2 : decode cX6_hops 2 = .ok (.invokevirtual 138, 3) := by decide +kernel
theorem dX6_hops_5 : decode cX6_hops 5 = .ok (.aload_n 0, 1) := by decide +kernel
theorem dX6_hops_6 : decode cX6_hops 6 = .ok (.iload_n 2, 1) := by decide +kernel
theorem dX6_hops_7 : decode cX6_hops 7 = .ok (.invokevirtual 138, 3) := by decide +kernel
theorem dX6_hops_10 : decode cX6_hops 10 = .ok (.iconst 1, 1) := by decide +kernel
theorem dX6_hops_11 : decode cX6_hops 11 = .ok (.iload_n 1, 1) := by decide +kernel
theorem dX6_hops_12 : decode cX6_hops 12 = .ok (.ishl, 1) := by decide +kernel
theorem dX6_hops_13 : decode cX6_hops 13 = .ok (.istore_n 3, 1) := by decide +kernel
theorem dX6_hops_14 : decode cX6_hops 14 = .ok (.iconst 0, 1) := by decide +kernel
theorem dX6_hops_15 : decode cX6_hops 15 = .ok (.istore 4, 2) := by decide +kernel
theorem dX6_hops_17 : decode cX6_hops 17 = .ok (.iload 4, 2) := by decide +kernel
theorem dX6_hops_19 : decode cX6_hops 19 = .ok (.bipush 8, 2) := by decide +kernel
theorem dX6_hops_21 : decode cX6_hops 21 = .ok (.if_icmp .ge 29, 3) := by decide +kernel
theorem dX6_hops_24 : decode cX6_hops 24 = .ok (.iload_n 3, 1) := by decide +kernel
theorem dX6_hops_25 : decode cX6_hops 25 = .ok (.iload_n 2, 1) := by decide +kernel
theorem dX6_hops_26 : decode cX6_hops 26 = .ok (.invokestatic 205, 3) := by decide +kernel
theorem dX6_hops_29 : decode cX6_hops 29 = .ok (.ifCond .eq 6, 3) := by decide +kernel
theorem dX6_hops_32 : decode cX6_hops 32 = .ok (.iload 4, 2) := by decide +kernel
theorem dX6_hops_34 : decode cX6_hops 34 = .ok (.ireturn, 1) := by decide +kernel
theorem dX6_hops_35 : decode cX6_hops 35 = .ok (.aload_n 0, 1) := by decide +kernel
theorem dX6_hops_36 : decode cX6_hops 36 = .ok (.getfield 20, 3) := by decide +kernel
theorem dX6_hops_39 : decode cX6_hops 39 = .ok (.iload_n 3, 1) := by decide +kernel
theorem dX6_hops_40 : decode cX6_hops 40 = .ok (.invokevirtual 224, 3) := by decide +kernel
theorem dX6_hops_43 : decode cX6_hops 43 = .ok (.istore_n 3, 1) := by decide +kernel
theorem dX6_hops_44 : decode cX6_hops 44 = .ok (.iinc 4 1, 3) := by decide +kernel
theorem dX6_hops_47 : decode cX6_hops 47 = .ok (.goto (-30), 3) := by decide +kernel
theorem dX6_hops_50 : decode cX6_hops 50 = .ok (.iconst (-1), 1) := by decide +kernel
theorem dX6_hops_51 : decode cX6_hops 51 = .ok (.ireturn, 1) := by decide +kernel
theorem dX6_window_0 : decode cX6_window 0 = .ok (.aload_n 0, 1) := by decide +kernel
theorem dX6_window_1 : decode cX6_window 1 = .ok (.iload_n 1, 1) := by decide +kernel
theorem dX6_window_2 : decode cX6_window 2 = .ok (.invokevirtual 138, 3) := by decide +kernel
theorem dX6_window_5 : decode cX6_window 5 = .ok (.aload_n 0, 1) := by decide +kernel
theorem dX6_window_6 : decode cX6_window 6 = .ok (.getfield 20, 3) := by decide +kernel
theorem dX6_window_9 : decode cX6_window 9 = .ok (.getfield 141, 3) := by decide +kernel
theorem dX6_window_12 : decode cX6_window 12 = .ok (.iload_n 1, 1) := by decide +kernel
theorem dX6_window_13 : decode cX6_window 13 = .ok (.aaload, 1) := by decide +kernel
theorem dX6_window_14 : decode cX6_window 14 = .ok (.invokevirtual 234, 3) := by decide +kernel
theorem dX6_window_17 : decode cX6_window 17 = .ok (.ireturn, 1) := by decide +kernel
theorem dX6_stateIn_0 : decode cX6_stateIn 0 = .ok (.aload_n 0, 1) := by decide +kernel
theorem dX6_stateIn_1 : decode cX6_stateIn 1 = .ok (.iload_n 1, 1) := by decide +kernel
theorem dX6_stateIn_2 : decode cX6_stateIn 2 = .ok (.invokevirtual 138, 3) := by decide +kernel
theorem dX6_stateIn_5 : decode cX6_stateIn 5 = .ok (.iload_n 2, 1) := by decide +kernel
theorem dX6_stateIn_6 : decode cX6_stateIn 6 = .ok (.invokestatic 237, 3) := by decide +kernel
theorem dX6_stateIn_9 : decode cX6_stateIn 9 = .ok (.aload_n 0, 1) := by decide +kernel
theorem dX6_stateIn_10 : decode cX6_stateIn 10 = .ok (.iload_n 2, 1) := by decide +kernel
theorem dX6_stateIn_11 : decode cX6_stateIn 11 = .ok (.invokevirtual 240, 3) := by decide +kernel
theorem dX6_stateIn_14 : decode cX6_stateIn 14 = .ok (.aload_n 0, 1) := by decide +kernel
theorem dX6_stateIn_15 : decode cX6_stateIn 15 = .ok (.getfield 24, 3) := by decide +kernel
theorem dX6_stateIn_18 : decode cX6_stateIn 18 = .ok (.getfield 141, 3) := by decide +kernel
theorem dX6_stateIn_21 : decode cX6_stateIn 21 = .ok (.iload_n 1, 1) := by decide +kernel
theorem dX6_stateIn_22 : decode cX6_stateIn 22 = .ok (.aaload, 1) := by decide +kernel
theorem dX6_stateIn_23 : decode cX6_stateIn 23 = .ok (.getfield 162, 3) := by decide +kernel
theorem dX6_stateIn_26 : decode cX6_stateIn 26 = .ok (.ireturn, 1) := by decide +kernel
theorem dX6_energyIn_0 : decode cX6_energyIn 0 = .ok (.aload_n 0, 1) := by decide +kernel
theorem dX6_energyIn_1 : decode cX6_energyIn 1 = .ok (.iload_n 1, 1) := by decide +kernel
theorem dX6_energyIn_2 : decode cX6_energyIn 2 = .ok (.invokevirtual 138, 3) := by decide +kernel
theorem dX6_energyIn_5 : decode cX6_energyIn 5 = .ok (.iload_n 2, 1) := by decide +kernel
theorem dX6_energyIn_6 : decode cX6_energyIn 6 = .ok (.invokestatic 237, 3) := by decide +kernel
theorem dX6_energyIn_9 : decode cX6_energyIn 9 = .ok (.aload_n 0, 1) := by decide +kernel
theorem dX6_energyIn_10 : decode cX6_energyIn 10 = .ok (.iload_n 2, 1) := by decide +kernel
theorem dX6_energyIn_11 : decode cX6_energyIn 11 = .ok (.invokevirtual 240, 3) := by decide +kernel
theorem dX6_energyIn_14 : decode cX6_energyIn 14 = .ok (.aload_n 0, 1) := by decide +kernel
theorem dX6_energyIn_15 : decode cX6_energyIn 15 = .ok (.getfield 24, 3) := by decide +kernel
theorem dX6_energyIn_18 : decode cX6_energyIn 18 = .ok (.getfield 141, 3) := by decide +kernel
theorem dX6_energyIn_21 : decode cX6_energyIn 21 = .ok (.iload_n 1, 1) := by decide +kernel
theorem dX6_energyIn_22 : decode cX6_energyIn 22 = .ok (.aaload, 1) := by decide +kernel
theorem dX6_energyIn_23 : decode cX6_energyIn 23 = .ok (.getfield 159, 3) := by decide +kernel
theorem dX6_energyIn_26 : decode cX6_energyIn 26 = .ok (.ireturn, 1) := by decide +kernel
theorem dX6_collisionsIn_0 : decode cX6_collisionsIn 0 = .ok (.iload_n 1, 1) := by decide +kernel
theorem dX6_collisionsIn_1 : decode cX6_collisionsIn 1 = .ok (.invokestatic 237, 3) := by decide +kernel
theorem dX6_collisionsIn_4 : decode cX6_collisionsIn 4 = .ok (.aload_n 0, 1) := by decide +kernel
theorem dX6_collisionsIn_5 : decode cX6_collisionsIn 5 = .ok (.iload_n 1, 1) := by decide +kernel
theorem dX6_collisionsIn_6 : decode cX6_collisionsIn 6 = .ok (.invokevirtual 240, 3) := by decide +kernel
theorem dX6_collisionsIn_9 : decode cX6_collisionsIn 9 = .ok (.aload_n 0, 1) := by decide +kernel
theorem dX6_collisionsIn_10 : decode cX6_collisionsIn 10 = .ok (.getfield 24, 3) := by decide +kernel
theorem dX6_collisionsIn_13 : decode cX6_collisionsIn 13 = .ok (.getfield 129, 3) := by decide +kernel
theorem dX6_collisionsIn_16 : decode cX6_collisionsIn 16 = .ok (.aload_n 0, 1) := by decide +kernel
theorem dX6_collisionsIn_17 : decode cX6_collisionsIn 17 = .ok (.getfield 20, 3) := by decide +kernel
theorem dX6_collisionsIn_20 : decode cX6_collisionsIn 20 = .ok (.getfield 129, 3) := by decide +kernel
theorem dX6_collisionsIn_23 : decode cX6_collisionsIn 23 = .ok (.isub, 1) := by decide +kernel
theorem dX6_collisionsIn_24 : decode cX6_collisionsIn 24 = .ok (.ireturn, 1) := by decide +kernel
theorem dX6_wellIn_0 : decode cX6_wellIn 0 = .ok (.aload_n 0, 1) := by decide +kernel
theorem dX6_wellIn_1 : decode cX6_wellIn 1 = .ok (.iload_n 1, 1) := by decide +kernel
theorem dX6_wellIn_2 : decode cX6_wellIn 2 = .ok (.invokevirtual 138, 3) := by decide +kernel
theorem dX6_wellIn_5 : decode cX6_wellIn 5 = .ok (.aload_n 0, 1) := by decide +kernel
theorem dX6_wellIn_6 : decode cX6_wellIn 6 = .ok (.iconst 4, 1) := by decide +kernel
theorem dX6_wellIn_7 : decode cX6_wellIn 7 = .ok (.iconst 1, 1) := by decide +kernel
theorem dX6_wellIn_8 : decode cX6_wellIn 8 = .ok (.iload_n 1, 1) := by decide +kernel
theorem dX6_wellIn_9 : decode cX6_wellIn 9 = .ok (.aload_n 0, 1) := by decide +kernel
theorem dX6_wellIn_10 : decode cX6_wellIn 10 = .ok (.getfield 20, 3) := by decide +kernel
theorem dX6_wellIn_13 : decode cX6_wellIn 13 = .ok (.getfield 141, 3) := by decide +kernel
theorem dX6_wellIn_16 : decode cX6_wellIn 16 = .ok (.iload_n 1, 1) := by decide +kernel
theorem dX6_wellIn_17 : decode cX6_wellIn 17 = .ok (.aaload, 1) := by decide +kernel
theorem dX6_wellIn_18 : decode cX6_wellIn 18 = .ok (.getfield 182, 3) := by decide +kernel
theorem dX6_wellIn_21 : decode cX6_wellIn 21 = .ok (.invokevirtual 243, 3) := by decide +kernel
theorem dX6_wellIn_24 : decode cX6_wellIn 24 = .ok (.ireturn, 1) := by decide +kernel
theorem dX6_tryAhead_0 : decode cX6_tryAhead 0 = .ok (.aload_n 0, 1) := by decide +kernel
theorem dX6_tryAhead_1 : decode cX6_tryAhead 1 = .ok (.getfield 24, 3) := by decide +kernel
theorem dX6_tryAhead_4 : decode cX6_tryAhead 4 = .ok (.aload_n 0, 1) := by decide +kernel
theorem dX6_tryAhead_5 : decode cX6_tryAhead 5 = .ok (.getfield 20, 3) := by decide +kernel
theorem dX6_tryAhead_8 : decode cX6_tryAhead 8 = .ok (.invokevirtual 86, 3) := by decide +kernel
theorem dX6_tryAhead_11 : decode cX6_tryAhead 11 = .ok (.aload_n 0, 1) := by decide +kernel
theorem dX6_tryAhead_12 : decode cX6_tryAhead 12 = .ok (.getfield 24, 3) := by decide +kernel
theorem dX6_tryAhead_15 : decode cX6_tryAhead 15 = .ok (.iload_n 1, 1) := by decide +kernel
theorem dX6_tryAhead_16 : decode cX6_tryAhead 16 = .ok (.invokevirtual 247, 3) := by decide +kernel
theorem dX6_tryAhead_19 : decode cX6_tryAhead 19 = .ok (.return_, 1) := by decide +kernel
theorem dX6_slotsUntil_0 : decode cX6_slotsUntil 0 = .ok (.aload_n 0, 1) := by decide +kernel
theorem dX6_slotsUntil_1 : decode cX6_slotsUntil 1 = .ok (.iload_n 2, 1) := by decide +kernel
theorem dX6_slotsUntil_2 : decode cX6_slotsUntil 2 = .ok (.invokevirtual 240, 3) := by decide +kernel
theorem dX6_slotsUntil_5 : decode cX6_slotsUntil 5 = .ok (.iload_n 2, 1) := by decide +kernel
theorem dX6_slotsUntil_6 : decode cX6_slotsUntil 6 = .ok (.istore 5, 2) := by decide +kernel
theorem dX6_slotsUntil_8 : decode cX6_slotsUntil 8 = .ok (.iload 5, 2) := by decide +kernel
theorem dX6_slotsUntil_10 : decode cX6_slotsUntil 10 = .ok (.sipush 300, 3) := by decide +kernel
theorem dX6_slotsUntil_13 : decode cX6_slotsUntil 13 = .ok (.if_icmp .gt 31, 3) := by decide +kernel
theorem dX6_slotsUntil_16 : decode cX6_slotsUntil 16 = .ok (.aload_n 0, 1) := by decide +kernel
theorem dX6_slotsUntil_17 : decode cX6_slotsUntil 17 = .ok (.iload_n 1, 1) := by decide +kernel
theorem dX6_slotsUntil_18 : decode cX6_slotsUntil 18 = .ok (.iload_n 3, 1) := by decide +kernel
theorem dX6_slotsUntil_19 : decode cX6_slotsUntil 19 = .ok (.iload 4, 2) := by decide +kernel
theorem dX6_slotsUntil_21 : decode cX6_slotsUntil 21 = .ok (.invokevirtual 256, 3) := by decide +kernel
theorem dX6_slotsUntil_24 : decode cX6_slotsUntil 24 = .ok (.ifCond .eq 6, 3) := by decide +kernel
theorem dX6_slotsUntil_27 : decode cX6_slotsUntil 27 = .ok (.iload 5, 2) := by decide +kernel
theorem dX6_slotsUntil_29 : decode cX6_slotsUntil 29 = .ok (.ireturn, 1) := by decide +kernel
theorem dX6_slotsUntil_30 : decode cX6_slotsUntil 30 = .ok (.aload_n 0, 1) := by decide +kernel
theorem dX6_slotsUntil_31 : decode cX6_slotsUntil 31 = .ok (.getfield 24, 3) := by decide +kernel
theorem dX6_slotsUntil_34 : decode cX6_slotsUntil 34 = .ok (.iconst 1, 1) := by decide +kernel
theorem dX6_slotsUntil_35 : decode cX6_slotsUntil 35 = .ok (.invokevirtual 247, 3) := by decide +kernel
theorem dX6_slotsUntil_38 : decode cX6_slotsUntil 38 = .ok (.iinc 5 1, 3) := by decide +kernel
theorem dX6_slotsUntil_41 : decode cX6_slotsUntil 41 = .ok (.goto (-33), 3) := by decide +kernel
theorem dX6_slotsUntil_44 : decode cX6_slotsUntil 44 = .ok (.iconst (-1), 1) := by decide +kernel
theorem dX6_slotsUntil_45 : decode cX6_slotsUntil 45 = .ok (.ireturn, 1) := by decide +kernel
theorem dX6_hasCome_0 : decode cX6_hasCome 0 = .ok (.aload_n 0, 1) := by decide +kernel
theorem dX6_hasCome_1 : decode cX6_hasCome 1 = .ok (.getfield 24, 3) := by decide +kernel
theorem dX6_hasCome_4 : decode cX6_hasCome 4 = .ok (.getfield 141, 3) := by decide +kernel
theorem dX6_hasCome_7 : decode cX6_hasCome 7 = .ok (.iload_n 2, 1) := by decide +kernel
theorem dX6_hasCome_8 : decode cX6_hasCome 8 = .ok (.aaload, 1) := by decide +kernel
theorem dX6_hasCome_9 : decode cX6_hasCome 9 = .ok (.astore 4, 2) := by decide +kernel
theorem dX6_hasCome_11 : decode cX6_hasCome 11 = .ok (.iload_n 1, 1) := by decide +kernel
theorem dX6_hasCome_12 : decode cX6_hasCome 12 = .ok (.tableswitch 81 0 3 #[32, 46, 54, 69], 32) := by decide +kernel
theorem dX6_hasCome_44 : decode cX6_hasCome 44 = .ok (.aload_n 0, 1) := by decide +kernel
theorem dX6_hasCome_45 : decode cX6_hasCome 45 = .ok (.getfield 24, 3) := by decide +kernel
theorem dX6_hasCome_48 : decode cX6_hasCome 48 = .ok (.aload 4, 2) := by decide +kernel
theorem dX6_hasCome_50 : decode cX6_hasCome 50 = .ok (.invokevirtual 178, 3) := by decide +kernel
theorem dX6_hasCome_53 : decode cX6_hasCome 53 = .ok (.iload_n 3, 1) := by decide +kernel
theorem dX6_hasCome_54 : decode cX6_hasCome 54 = .ok (.invokestatic 205, 3) := by decide +kernel
theorem dX6_hasCome_57 : decode cX6_hasCome 57 = .ok (.ireturn, 1) := by decide +kernel
theorem dX6_hasCome_58 : decode cX6_hasCome 58 = .ok (.aload_n 0, 1) := by decide +kernel
theorem dX6_hasCome_59 : decode cX6_hasCome 59 = .ok (.getfield 24, 3) := by decide +kernel
theorem dX6_hasCome_62 : decode cX6_hasCome 62 = .ok (.invokevirtual 260, 3) := by decide +kernel
theorem dX6_hasCome_65 : decode cX6_hasCome 65 = .ok (.ireturn, 1) := by decide +kernel
theorem dX6_hasCome_66 : decode cX6_hasCome 66 = .ok (.aload 4, 2) := by decide +kernel
theorem dX6_hasCome_68 : decode cX6_hasCome 68 = .ok (.getfield 162, 3) := by decide +kernel
theorem dX6_hasCome_71 : decode cX6_hasCome 71 = .ok (.iconst 4, 1) := by decide +kernel
theorem dX6_hasCome_72 : decode cX6_hasCome 72 = .ok (.if_icmp .ne 7, 3) := by decide +kernel
theorem dX6_hasCome_75 : decode cX6_hasCome 75 = .ok (.iconst 1, 1) := by decide +kernel
theorem dX6_hasCome_76 : decode cX6_hasCome 76 = .ok (.goto 4, 3) := by decide +kernel
theorem dX6_hasCome_79 : decode cX6_hasCome 79 = .ok (.iconst 0, 1) := by decide +kernel
theorem dX6_hasCome_80 : decode cX6_hasCome 80 = .ok (.ireturn, 1) := by decide +kernel
theorem dX6_hasCome_81 : decode cX6_hasCome 81 = .ok (.aload_n 0, 1) := by decide +kernel
theorem dX6_hasCome_82 : decode cX6_hasCome 82 = .ok (.getfield 24, 3) := by decide +kernel
theorem dX6_hasCome_85 : decode cX6_hasCome 85 = .ok (.getfield 263, 3) := by decide +kernel
theorem dX6_hasCome_88 : decode cX6_hasCome 88 = .ok (.iload_n 2, 1) := by decide +kernel
theorem dX6_hasCome_89 : decode cX6_hasCome 89 = .ok (.invokestatic 205, 3) := by decide +kernel
theorem dX6_hasCome_92 : decode cX6_hasCome 92 = .ok (.ireturn, 1) := by decide +kernel
theorem dX6_hasCome_93 : decode cX6_hasCome 93 = .ok (.aload 4, 2) := by decide +kernel
theorem dX6_hasCome_95 : decode cX6_hasCome 95 = .ok (.getfield 182, 3) := by decide +kernel
theorem dX6_hasCome_98 : decode cX6_hasCome 98 = .ok (.iload_n 3, 1) := by decide +kernel
theorem dX6_hasCome_99 : decode cX6_hasCome 99 = .ok (.if_icmp .le 7, 3) := by decide +kernel
theorem dX6_hasCome_102 : decode cX6_hasCome 102 = .ok (.iconst 1, 1) := by decide +kernel
theorem dX6_hasCome_103 : decode cX6_hasCome 103 = .ok (.goto 4, 3) := by decide +kernel
theorem dX6_hasCome_106 : decode cX6_hasCome 106 = .ok (.iconst 0, 1) := by decide +kernel
theorem dX6_hasCome_107 : decode cX6_hasCome 107 = .ok (.ireturn, 1) := by decide +kernel
theorem dX6_run_0 : decode cX6_run 0 = .ok (.iload_n 1, 1) := by decide +kernel
theorem dX6_run_1 : decode cX6_run 1 = .ok (.iconst 1, 1) := by decide +kernel
theorem dX6_run_2 : decode cX6_run 2 = .ok (.if_icmp .lt 9, 3) := by decide +kernel
theorem dX6_run_5 : decode cX6_run 5 = .ok (.iload_n 1, 1) := by decide +kernel
theorem dX6_run_6 : decode cX6_run 6 = .ok (.bipush 99, 2) := by decide +kernel
theorem dX6_run_8 : decode cX6_run 8 = .ok (.if_icmp .le 11, 3) := by decide +kernel
theorem dX6_run_11 : decode cX6_run 11 = .ok (.new 65, 3) := by decide +kernel
theorem dX6_run_14 : decode cX6_run 14 = .ok (.dup, 1) := by decide +kernel
theorem dX6_run_15 : decode cX6_run 15 = .ok (.invokespecial 67, 3) := by decide +kernel
theorem dX6_run_18 : decode cX6_run 18 = .ok (.athrow, 1) := by decide +kernel
theorem dX6_run_19 : decode cX6_run 19 = .ok (.aload_n 0, 1) := by decide +kernel
theorem dX6_run_20 : decode cX6_run 20 = .ok (.getfield 20, 3) := by decide +kernel
theorem dX6_run_23 : decode cX6_run 23 = .ok (.iload_n 1, 1) := by decide +kernel
theorem dX6_run_24 : decode cX6_run 24 = .ok (.invokevirtual 266, 3) := by decide +kernel
theorem dX6_run_27 : decode cX6_run 27 = .ok (.ifCond .ne 11, 3) := by decide +kernel
theorem dX6_run_30 : decode cX6_run 30 = .ok (.new 58, 3) := by decide +kernel
theorem dX6_run_33 : decode cX6_run 33 = .ok (.dup, 1) := by decide +kernel
theorem dX6_run_34 : decode cX6_run 34 = .ok (.invokespecial 60, 3) := by decide +kernel
theorem dX6_run_37 : decode cX6_run 37 = .ok (.athrow, 1) := by decide +kernel
theorem dX6_run_38 : decode cX6_run 38 = .ok (.aload_n 0, 1) := by decide +kernel
theorem dX6_run_39 : decode cX6_run 39 = .ok (.invokevirtual 98, 3) := by decide +kernel
theorem dX6_run_42 : decode cX6_run 42 = .ok (.aload_n 0, 1) := by decide +kernel
theorem dX6_run_43 : decode cX6_run 43 = .ok (.getfield 20, 3) := by decide +kernel
theorem dX6_run_46 : decode cX6_run 46 = .ok (.getfield 123, 3) := by decide +kernel
theorem dX6_run_49 : decode cX6_run 49 = .ok (.istore_n 2, 1) := by decide +kernel
theorem dX6_run_50 : decode cX6_run 50 = .ok (.aload_n 0, 1) := by decide +kernel
theorem dX6_run_51 : decode cX6_run 51 = .ok (.getfield 20, 3) := by decide +kernel
theorem dX6_run_54 : decode cX6_run 54 = .ok (.iload_n 1, 1) := by decide +kernel
theorem dX6_run_55 : decode cX6_run 55 = .ok (.invokevirtual 247, 3) := by decide +kernel
theorem dX6_run_58 : decode cX6_run 58 = .ok (.aload_n 0, 1) := by decide +kernel
theorem dX6_run_59 : decode cX6_run 59 = .ok (.getfield 20, 3) := by decide +kernel
theorem dX6_run_62 : decode cX6_run 62 = .ok (.getfield 123, 3) := by decide +kernel
theorem dX6_run_65 : decode cX6_run 65 = .ok (.iload_n 2, 1) := by decide +kernel
theorem dX6_run_66 : decode cX6_run 66 = .ok (.isub, 1) := by decide +kernel
theorem dX6_run_67 : decode cX6_run 67 = .ok (.ireturn, 1) := by decide +kernel
theorem dX6_wake_0 : decode cX6_wake 0 = .ok (.aload_n 0, 1) := by decide +kernel
theorem dX6_wake_1 : decode cX6_wake 1 = .ok (.iload_n 1, 1) := by decide +kernel
theorem dX6_wake_2 : decode cX6_wake 2 = .ok (.invokevirtual 138, 3) := by decide +kernel
theorem dX6_wake_5 : decode cX6_wake 5 = .ok (.aload_n 0, 1) := by decide +kernel
theorem dX6_wake_6 : decode cX6_wake 6 = .ok (.getfield 20, 3) := by decide +kernel
theorem dX6_wake_9 : decode cX6_wake 9 = .ok (.getfield 141, 3) := by decide +kernel
theorem dX6_wake_12 : decode cX6_wake 12 = .ok (.iload_n 1, 1) := by decide +kernel
theorem dX6_wake_13 : decode cX6_wake 13 = .ok (.aaload, 1) := by decide +kernel
theorem dX6_wake_14 : decode cX6_wake 14 = .ok (.getfield 162, 3) := by decide +kernel
theorem dX6_wake_17 : decode cX6_wake 17 = .ok (.ifCond .eq 11, 3) := by decide +kernel
theorem dX6_wake_20 : decode cX6_wake 20 = .ok (.new 58, 3) := by decide +kernel
theorem dX6_wake_23 : decode cX6_wake 23 = .ok (.dup, 1) := by decide +kernel
theorem dX6_wake_24 : decode cX6_wake 24 = .ok (.invokespecial 60, 3) := by decide +kernel
theorem dX6_wake_27 : decode cX6_wake 27 = .ok (.athrow, 1) := by decide +kernel
theorem dX6_wake_28 : decode cX6_wake 28 = .ok (.aload_n 0, 1) := by decide +kernel
theorem dX6_wake_29 : decode cX6_wake 29 = .ok (.invokevirtual 98, 3) := by decide +kernel
theorem dX6_wake_32 : decode cX6_wake 32 = .ok (.aload_n 0, 1) := by decide +kernel
theorem dX6_wake_33 : decode cX6_wake 33 = .ok (.getfield 20, 3) := by decide +kernel
theorem dX6_wake_36 : decode cX6_wake 36 = .ok (.getfield 141, 3) := by decide +kernel
theorem dX6_wake_39 : decode cX6_wake 39 = .ok (.iload_n 1, 1) := by decide +kernel
theorem dX6_wake_40 : decode cX6_wake 40 = .ok (.aaload, 1) := by decide +kernel
theorem dX6_wake_41 : decode cX6_wake 41 = .ok (.invokevirtual 270, 3) := by decide +kernel
theorem dX6_wake_44 : decode cX6_wake 44 = .ok (.aload_n 0, 1) := by decide +kernel
theorem dX6_wake_45 : decode cX6_wake 45 = .ok (.getfield 20, 3) := by decide +kernel
theorem dX6_wake_48 : decode cX6_wake 48 = .ok (.getfield 114, 3) := by decide +kernel
theorem dX6_wake_51 : decode cX6_wake 51 = .ok (.ireturn, 1) := by decide +kernel
theorem dX6_setEvery_0 : decode cX6_setEvery 0 = .ok (.aload_n 0, 1) := by decide +kernel
theorem dX6_setEvery_1 : decode cX6_setEvery 1 = .ok (.iload_n 1, 1) := by decide +kernel
theorem dX6_setEvery_2 : decode cX6_setEvery 2 = .ok (.invokevirtual 138, 3) := by decide +kernel
theorem dX6_setEvery_5 : decode cX6_setEvery 5 = .ok (.aload_n 0, 1) := by decide +kernel
theorem dX6_setEvery_6 : decode cX6_setEvery 6 = .ok (.getfield 20, 3) := by decide +kernel
theorem dX6_setEvery_9 : decode cX6_setEvery 9 = .ok (.getfield 141, 3) := by decide +kernel
theorem dX6_setEvery_12 : decode cX6_setEvery 12 = .ok (.iload_n 1, 1) := by decide +kernel
theorem dX6_setEvery_13 : decode cX6_setEvery 13 = .ok (.aaload, 1) := by decide +kernel
theorem dX6_setEvery_14 : decode cX6_setEvery 14 = .ok (.astore_n 3, 1) := by decide +kernel
theorem dX6_setEvery_15 : decode cX6_setEvery 15 = .ok (.aload_n 3, 1) := by decide +kernel
theorem dX6_setEvery_16 : decode cX6_setEvery 16 = .ok (.iload_n 2, 1) := by decide +kernel
theorem dX6_setEvery_17 : decode cX6_setEvery 17 = .ok (.invokevirtual 273, 3) := by decide +kernel
theorem dX6_setEvery_20 : decode cX6_setEvery 20 = .ok (.ifCond .ne 11, 3) := by decide +kernel
theorem dX6_setEvery_23 : decode cX6_setEvery 23 = .ok (.new 65, 3) := by decide +kernel
theorem dX6_setEvery_26 : decode cX6_setEvery 26 = .ok (.dup, 1) := by decide +kernel
theorem dX6_setEvery_27 : decode cX6_setEvery 27 = .ok (.invokespecial 67, 3) := by decide +kernel
theorem dX6_setEvery_30 : decode cX6_setEvery 30 = .ok (.athrow, 1) := by decide +kernel
theorem dX6_setEvery_31 : decode cX6_setEvery 31 = .ok (.aload_n 0, 1) := by decide +kernel
theorem dX6_setEvery_32 : decode cX6_setEvery 32 = .ok (.invokevirtual 98, 3) := by decide +kernel
theorem dX6_setEvery_35 : decode cX6_setEvery 35 = .ok (.aload_n 3, 1) := by decide +kernel
theorem dX6_setEvery_36 : decode cX6_setEvery 36 = .ok (.getfield 145, 3) := by decide +kernel
theorem dX6_setEvery_39 : decode cX6_setEvery 39 = .ok (.istore 4, 2) := by decide +kernel
theorem dX6_setEvery_41 : decode cX6_setEvery 41 = .ok (.aload_n 3, 1) := by decide +kernel
theorem dX6_setEvery_42 : decode cX6_setEvery 42 = .ok (.iload_n 2, 1) := by decide +kernel
theorem dX6_setEvery_43 : decode cX6_setEvery 43 = .ok (.putfield 145, 3) := by decide +kernel
theorem dX6_setEvery_46 : decode cX6_setEvery 46 = .ok (.iload 4, 2) := by decide +kernel
theorem dX6_setEvery_48 : decode cX6_setEvery 48 = .ok (.ireturn, 1) := by decide +kernel
theorem dX6_setAt_0 : decode cX6_setAt 0 = .ok (.aload_n 0, 1) := by decide +kernel
theorem dX6_setAt_1 : decode cX6_setAt 1 = .ok (.iload_n 1, 1) := by decide +kernel
theorem dX6_setAt_2 : decode cX6_setAt 2 = .ok (.invokevirtual 138, 3) := by decide +kernel
theorem dX6_setAt_5 : decode cX6_setAt 5 = .ok (.aload_n 0, 1) := by decide +kernel
theorem dX6_setAt_6 : decode cX6_setAt 6 = .ok (.getfield 20, 3) := by decide +kernel
theorem dX6_setAt_9 : decode cX6_setAt 9 = .ok (.getfield 141, 3) := by decide +kernel
theorem dX6_setAt_12 : decode cX6_setAt 12 = .ok (.iload_n 1, 1) := by decide +kernel
theorem dX6_setAt_13 : decode cX6_setAt 13 = .ok (.aaload, 1) := by decide +kernel
theorem dX6_setAt_14 : decode cX6_setAt 14 = .ok (.astore_n 3, 1) := by decide +kernel
theorem dX6_setAt_15 : decode cX6_setAt 15 = .ok (.aload_n 3, 1) := by decide +kernel
theorem dX6_setAt_16 : decode cX6_setAt 16 = .ok (.iload_n 2, 1) := by decide +kernel
theorem dX6_setAt_17 : decode cX6_setAt 17 = .ok (.invokevirtual 276, 3) := by decide +kernel
theorem dX6_setAt_20 : decode cX6_setAt 20 = .ok (.ifCond .ne 11, 3) := by decide +kernel
theorem dX6_setAt_23 : decode cX6_setAt 23 = .ok (.new 65, 3) := by decide +kernel
theorem dX6_setAt_26 : decode cX6_setAt 26 = .ok (.dup, 1) := by decide +kernel
theorem dX6_setAt_27 : decode cX6_setAt 27 = .ok (.invokespecial 67, 3) := by decide +kernel
theorem dX6_setAt_30 : decode cX6_setAt 30 = .ok (.athrow, 1) := by decide +kernel
theorem dX6_setAt_31 : decode cX6_setAt 31 = .ok (.aload_n 0, 1) := by decide +kernel
theorem dX6_setAt_32 : decode cX6_setAt 32 = .ok (.invokevirtual 98, 3) := by decide +kernel
theorem dX6_setAt_35 : decode cX6_setAt 35 = .ok (.aload_n 3, 1) := by decide +kernel
theorem dX6_setAt_36 : decode cX6_setAt 36 = .ok (.getfield 150, 3) := by decide +kernel
theorem dX6_setAt_39 : decode cX6_setAt 39 = .ok (.istore 4, 2) := by decide +kernel
theorem dX6_setAt_41 : decode cX6_setAt 41 = .ok (.aload_n 3, 1) := by decide +kernel
theorem dX6_setAt_42 : decode cX6_setAt 42 = .ok (.iload_n 2, 1) := by decide +kernel
theorem dX6_setAt_43 : decode cX6_setAt 43 = .ok (.putfield 150, 3) := by decide +kernel
theorem dX6_setAt_46 : decode cX6_setAt 46 = .ok (.iload 4, 2) := by decide +kernel
theorem dX6_setAt_48 : decode cX6_setAt 48 = .ok (.ireturn, 1) := by decide +kernel
theorem dX6_charge_0 : decode cX6_charge 0 = .ok (.aload_n 0, 1) := by decide +kernel
theorem dX6_charge_1 : decode cX6_charge 1 = .ok (.iload_n 1, 1) := by decide +kernel
theorem dX6_charge_2 : decode cX6_charge 2 = .ok (.invokevirtual 138, 3) := by decide +kernel
theorem dX6_charge_5 : decode cX6_charge 5 = .ok (.iload_n 2, 1) := by decide +kernel
theorem dX6_charge_6 : decode cX6_charge 6 = .ok (.invokestatic 279, 3) := by decide +kernel
theorem dX6_charge_9 : decode cX6_charge 9 = .ok (.ifCond .ne 11, 3) := by decide +kernel
theorem dX6_charge_12 : decode cX6_charge 12 = .ok (.new 65, 3) := by decide +kernel
theorem dX6_charge_15 : decode cX6_charge 15 = .ok (.dup, 1) := by decide +kernel
theorem dX6_charge_16 : decode cX6_charge 16 = .ok (.invokespecial 67, 3) := by decide +kernel
theorem dX6_charge_19 : decode cX6_charge 19 = .ok (.athrow, 1) := by decide +kernel
theorem dX6_charge_20 : decode cX6_charge 20 = .ok (.aload_n 0, 1) := by decide +kernel
theorem dX6_charge_21 : decode cX6_charge 21 = .ok (.invokevirtual 98, 3) := by decide +kernel
theorem dX6_charge_24 : decode cX6_charge 24 = .ok (.aload_n 0, 1) := by decide +kernel
theorem dX6_charge_25 : decode cX6_charge 25 = .ok (.getfield 20, 3) := by decide +kernel
theorem dX6_charge_28 : decode cX6_charge 28 = .ok (.getfield 141, 3) := by decide +kernel
theorem dX6_charge_31 : decode cX6_charge 31 = .ok (.iload_n 1, 1) := by decide +kernel
theorem dX6_charge_32 : decode cX6_charge 32 = .ok (.aaload, 1) := by decide +kernel
theorem dX6_charge_33 : decode cX6_charge 33 = .ok (.iload_n 2, 1) := by decide +kernel
theorem dX6_charge_34 : decode cX6_charge 34 = .ok (.invokevirtual 282, 3) := by decide +kernel
theorem dX6_charge_37 : decode cX6_charge 37 = .ok (.aload_n 0, 1) := by decide +kernel
theorem dX6_charge_38 : decode cX6_charge 38 = .ok (.getfield 20, 3) := by decide +kernel
theorem dX6_charge_41 : decode cX6_charge 41 = .ok (.getfield 141, 3) := by decide +kernel
theorem dX6_charge_44 : decode cX6_charge 44 = .ok (.iload_n 1, 1) := by decide +kernel
theorem dX6_charge_45 : decode cX6_charge 45 = .ok (.aaload, 1) := by decide +kernel
theorem dX6_charge_46 : decode cX6_charge 46 = .ok (.getfield 159, 3) := by decide +kernel
theorem dX6_charge_49 : decode cX6_charge 49 = .ok (.ireturn, 1) := by decide +kernel
theorem dX6_setNear_0 : decode cX6_setNear 0 = .ok (.aload_n 0, 1) := by decide +kernel
theorem dX6_setNear_1 : decode cX6_setNear 1 = .ok (.iload_n 1, 1) := by decide +kernel
theorem dX6_setNear_2 : decode cX6_setNear 2 = .ok (.invokevirtual 138, 3) := by decide +kernel
theorem dX6_setNear_5 : decode cX6_setNear 5 = .ok (.aload_n 0, 1) := by decide +kernel
theorem dX6_setNear_6 : decode cX6_setNear 6 = .ok (.iload_n 2, 1) := by decide +kernel
theorem dX6_setNear_7 : decode cX6_setNear 7 = .ok (.invokevirtual 138, 3) := by decide +kernel
theorem dX6_setNear_10 : decode cX6_setNear 10 = .ok (.iload_n 1, 1) := by decide +kernel
theorem dX6_setNear_11 : decode cX6_setNear 11 = .ok (.iload_n 2, 1) := by decide +kernel
theorem dX6_setNear_12 : decode cX6_setNear 12 = .ok (.if_icmp .ne 11, 3) := by decide +kernel
theorem dX6_setNear_15 : decode cX6_setNear 15 = .ok (.new 65, 3) := by decide +kernel
theorem dX6_setNear_18 : decode cX6_setNear 18 = .ok (.dup, 1) := by decide +kernel
theorem dX6_setNear_19 : decode cX6_setNear 19 = .ok (.invokespecial 67, 3) := by decide +kernel
theorem dX6_setNear_22 : decode cX6_setNear 22 = .ok (.athrow, 1) := by decide +kernel
theorem dX6_setNear_23 : decode cX6_setNear 23 = .ok (.aload_n 0, 1) := by decide +kernel
theorem dX6_setNear_24 : decode cX6_setNear 24 = .ok (.getfield 20, 3) := by decide +kernel
theorem dX6_setNear_27 : decode cX6_setNear 27 = .ok (.getfield 141, 3) := by decide +kernel
theorem dX6_setNear_30 : decode cX6_setNear 30 = .ok (.iload_n 1, 1) := by decide +kernel
theorem dX6_setNear_31 : decode cX6_setNear 31 = .ok (.aaload, 1) := by decide +kernel
theorem dX6_setNear_32 : decode cX6_setNear 32 = .ok (.getfield 175, 3) := by decide +kernel
theorem dX6_setNear_35 : decode cX6_setNear 35 = .ok (.iload_n 2, 1) := by decide +kernel
theorem dX6_setNear_36 : decode cX6_setNear 36 = .ok (.invokestatic 205, 3) := by decide +kernel
theorem dX6_setNear_39 : decode cX6_setNear 39 = .ok (.iload_n 3, 1) := by decide +kernel
theorem dX6_setNear_40 : decode cX6_setNear 40 = .ok (.if_icmp .ne 5, 3) := by decide +kernel
theorem dX6_setNear_43 : decode cX6_setNear 43 = .ok (.iconst 0, 1) := by decide +kernel
theorem dX6_setNear_44 : decode cX6_setNear 44 = .ok (.ireturn, 1) := by decide +kernel
theorem dX6_setNear_45 : decode cX6_setNear 45 = .ok (.aload_n 0, 1) := by decide +kernel
theorem dX6_setNear_46 : decode cX6_setNear 46 = .ok (.invokevirtual 98, 3) := by decide +kernel
theorem dX6_setNear_49 : decode cX6_setNear 49 = .ok (.aload_n 0, 1) := by decide +kernel
theorem dX6_setNear_50 : decode cX6_setNear 50 = .ok (.getfield 20, 3) := by decide +kernel
theorem dX6_setNear_53 : decode cX6_setNear 53 = .ok (.iload_n 1, 1) := by decide +kernel
theorem dX6_setNear_54 : decode cX6_setNear 54 = .ok (.iload_n 2, 1) := by decide +kernel
theorem dX6_setNear_55 : decode cX6_setNear 55 = .ok (.invokevirtual 285, 3) := by decide +kernel
theorem dX6_setNear_58 : decode cX6_setNear 58 = .ok (.iconst 1, 1) := by decide +kernel
theorem dX6_setNear_59 : decode cX6_setNear 59 = .ok (.ireturn, 1) := by decide +kernel
theorem dX6_setTries_0 : decode cX6_setTries 0 = .ok (.iload_n 1, 1) := by decide +kernel
theorem dX6_setTries_1 : decode cX6_setTries 1 = .ok (.iconst 1, 1) := by decide +kernel
theorem dX6_setTries_2 : decode cX6_setTries 2 = .ok (.if_icmp .lt 9, 3) := by decide +kernel
theorem dX6_setTries_5 : decode cX6_setTries 5 = .ok (.iload_n 1, 1) := by decide +kernel
theorem dX6_setTries_6 : decode cX6_setTries 6 = .ok (.bipush 9, 2) := by decide +kernel
theorem dX6_setTries_8 : decode cX6_setTries 8 = .ok (.if_icmp .le 11, 3) := by decide +kernel
theorem dX6_setTries_11 : decode cX6_setTries 11 = .ok (.new 65, 3) := by decide +kernel
theorem dX6_setTries_14 : decode cX6_setTries 14 = .ok (.dup, 1) := by decide +kernel
theorem dX6_setTries_15 : decode cX6_setTries 15 = .ok (.invokespecial 67, 3) := by decide +kernel
theorem dX6_setTries_18 : decode cX6_setTries 18 = .ok (.athrow, 1) := by decide +kernel
theorem dX6_setTries_19 : decode cX6_setTries 19 = .ok (.aload_n 0, 1) := by decide +kernel
theorem dX6_setTries_20 : decode cX6_setTries 20 = .ok (.invokevirtual 98, 3) := by decide +kernel
theorem dX6_setTries_23 : decode cX6_setTries 23 = .ok (.aload_n 0, 1) := by decide +kernel
theorem dX6_setTries_24 : decode cX6_setTries 24 = .ok (.getfield 20, 3) := by decide +kernel
theorem dX6_setTries_27 : decode cX6_setTries 27 = .ok (.getfield 117, 3) := by decide +kernel
theorem dX6_setTries_30 : decode cX6_setTries 30 = .ok (.istore_n 2, 1) := by decide +kernel
theorem dX6_setTries_31 : decode cX6_setTries 31 = .ok (.aload_n 0, 1) := by decide +kernel
theorem dX6_setTries_32 : decode cX6_setTries 32 = .ok (.getfield 20, 3) := by decide +kernel
theorem dX6_setTries_35 : decode cX6_setTries 35 = .ok (.iload_n 1, 1) := by decide +kernel
theorem dX6_setTries_36 : decode cX6_setTries 36 = .ok (.putfield 117, 3) := by decide +kernel
theorem dX6_setTries_39 : decode cX6_setTries 39 = .ok (.iload_n 2, 1) := by decide +kernel
theorem dX6_setTries_40 : decode cX6_setTries 40 = .ok (.ireturn, 1) := by decide +kernel
theorem dX6_undo_0 : decode cX6_undo 0 = .ok (.aload_n 0, 1) := by decide +kernel
theorem dX6_undo_1 : decode cX6_undo 1 = .ok (.getfield 90, 3) := by decide +kernel
theorem dX6_undo_4 : decode cX6_undo 4 = .ok (.iconst 1, 1) := by decide +kernel
theorem dX6_undo_5 : decode cX6_undo 5 = .ok (.if_icmp .ge 5, 3) := by decide +kernel
theorem dX6_undo_8 : decode cX6_undo 8 = .ok (.iconst (-1), 1) := by decide +kernel
theorem dX6_undo_9 : decode cX6_undo 9 = .ok (.ireturn, 1) := by decide +kernel
theorem dX6_undo_10 : decode cX6_undo 10 = .ok (.aload_n 0, 1) := by decide +kernel
theorem dX6_undo_11 : decode cX6_undo 11 = .ok (.dup, 1) := by decide +kernel
theorem dX6_undo_12 : decode cX6_undo 12 = .ok (.getfield 90, 3) := by decide +kernel
theorem dX6_undo_15 : decode cX6_undo 15 = .ok (.iconst 1, 1) := by decide +kernel
theorem dX6_undo_16 : decode cX6_undo 16 = .ok (.isub, 1) := by decide +kernel
theorem dX6_undo_17 : decode cX6_undo 17 = .ok (.putfield 90, 3) := by decide +kernel
theorem dX6_undo_20 : decode cX6_undo 20 = .ok (.aload_n 0, 1) := by decide +kernel
theorem dX6_undo_21 : decode cX6_undo 21 = .ok (.getfield 20, 3) := by decide +kernel
theorem dX6_undo_24 : decode cX6_undo 24 = .ok (.aload_n 0, 1) := by decide +kernel
theorem dX6_undo_25 : decode cX6_undo 25 = .ok (.getfield 30, 3) := by decide +kernel
theorem dX6_undo_28 : decode cX6_undo 28 = .ok (.aload_n 0, 1) := by decide +kernel
theorem dX6_undo_29 : decode cX6_undo 29 = .ok (.getfield 90, 3) := by decide +kernel
theorem dX6_undo_32 : decode cX6_undo 32 = .ok (.aaload, 1) := by decide +kernel
theorem dX6_undo_33 : decode cX6_undo 33 = .ok (.invokevirtual 86, 3) := by decide +kernel
theorem dX6_undo_36 : decode cX6_undo 36 = .ok (.aload_n 0, 1) := by decide +kernel
theorem dX6_undo_37 : decode cX6_undo 37 = .ok (.getfield 90, 3) := by decide +kernel
theorem dX6_undo_40 : decode cX6_undo 40 = .ok (.ireturn, 1) := by decide +kernel
theorem dX6_keepForUndo_0 : decode cX6_keepForUndo 0 = .ok (.aload_n 0, 1) := by decide +kernel
theorem dX6_keepForUndo_1 : decode cX6_keepForUndo 1 = .ok (.getfield 90, 3) := by decide +kernel
theorem dX6_keepForUndo_4 : decode cX6_keepForUndo 4 = .ok (.bipush 6, 2) := by decide +kernel
theorem dX6_keepForUndo_6 : decode cX6_keepForUndo 6 = .ok (.if_icmp .lt 50, 3) := by decide +kernel
theorem dX6_keepForUndo_9 : decode cX6_keepForUndo 9 = .ok (.aload_n 0, 1) := by decide +kernel
theorem dX6_keepForUndo_10 : decode cX6_keepForUndo 10 = .ok (.getfield 30, 3) := by decide +kernel
theorem dX6_keepForUndo_13 : decode cX6_keepForUndo 13 = .ok (.iconst 0, 1) := by decide +kernel
theorem dX6_keepForUndo_14 : decode cX6_keepForUndo 14 = .ok (.aaload, 1) := by decide +kernel
theorem dX6_keepForUndo_15 : decode cX6_keepForUndo 15 = .ok (.astore_n 1, 1) := by decide +kernel
theorem dX6_keepForUndo_16 : decode cX6_keepForUndo 16 = .ok (.iconst 1, 1) := by decide +kernel
theorem dX6_keepForUndo_17 : decode cX6_keepForUndo 17 = .ok (.istore_n 2, 1) := by decide +kernel
theorem dX6_keepForUndo_18 : decode cX6_keepForUndo 18 = .ok (.iload_n 2, 1) := by decide +kernel
theorem dX6_keepForUndo_19 : decode cX6_keepForUndo 19 = .ok (.bipush 6, 2) := by decide +kernel
theorem dX6_keepForUndo_21 : decode cX6_keepForUndo 21 = .ok (.if_icmp .ge 23, 3) := by decide +kernel
theorem dX6_keepForUndo_24 : decode cX6_keepForUndo 24 = .ok (.aload_n 0, 1) := by decide +kernel
theorem dX6_keepForUndo_25 : decode cX6_keepForUndo 25 = .ok (.getfield 30, 3) := by decide +kernel
theorem dX6_keepForUndo_28 : decode cX6_keepForUndo 28 = .ok (.iload_n 2, 1) := by decide +kernel
theorem dX6_keepForUndo_29 : decode cX6_keepForUndo 29 = .ok (.iconst 1, 1) := by decide +kernel
theorem dX6_keepForUndo_30 : decode cX6_keepForUndo 30 = .ok (.isub, 1) := by decide +kernel
theorem dX6_keepForUndo_31 : decode cX6_keepForUndo 31 = .ok (.aload_n 0, 1) := by decide +kernel
theorem dX6_keepForUndo_32 : decode cX6_keepForUndo 32 = .ok (.getfield 30, 3) := by decide +kernel
theorem dX6_keepForUndo_35 : decode cX6_keepForUndo 35 = .ok (.iload_n 2, 1) := by decide +kernel
theorem dX6_keepForUndo_36 : decode cX6_keepForUndo 36 = .ok (.aaload, 1) := by decide +kernel
theorem dX6_keepForUndo_37 : decode cX6_keepForUndo 37 = .ok (.aastore, 1) := by decide +kernel
theorem dX6_keepForUndo_38 : decode cX6_keepForUndo 38 = .ok (.iinc 2 1, 3) := by decide +kernel
theorem dX6_keepForUndo_41 : decode cX6_keepForUndo 41 = .ok (.goto (-23), 3) := by decide +kernel
theorem dX6_keepForUndo_44 : decode cX6_keepForUndo 44 = .ok (.aload_n 0, 1) := by decide +kernel
theorem dX6_keepForUndo_45 : decode cX6_keepForUndo 45 = .ok (.getfield 30, 3) := by decide +kernel
theorem dX6_keepForUndo_48 : decode cX6_keepForUndo 48 = .ok (.iconst 5, 1) := by decide +kernel
theorem dX6_keepForUndo_49 : decode cX6_keepForUndo 49 = .ok (.aload_n 1, 1) := by decide +kernel
theorem dX6_keepForUndo_50 : decode cX6_keepForUndo 50 = .ok (.aastore, 1) := by decide +kernel
theorem dX6_keepForUndo_51 : decode cX6_keepForUndo 51 = .ok (.aload_n 0, 1) := by decide +kernel
theorem dX6_keepForUndo_52 : decode cX6_keepForUndo 52 = .ok (.iconst 5, 1) := by decide +kernel
theorem dX6_keepForUndo_53 : decode cX6_keepForUndo 53 = .ok (.putfield 90, 3) := by decide +kernel
theorem dX6_keepForUndo_56 : decode cX6_keepForUndo 56 = .ok (.aload_n 0, 1) := by decide +kernel
theorem dX6_keepForUndo_57 : decode cX6_keepForUndo 57 = .ok (.getfield 30, 3) := by decide +kernel
theorem dX6_keepForUndo_60 : decode cX6_keepForUndo 60 = .ok (.aload_n 0, 1) := by decide +kernel
theorem dX6_keepForUndo_61 : decode cX6_keepForUndo 61 = .ok (.getfield 90, 3) := by decide +kernel
theorem dX6_keepForUndo_64 : decode cX6_keepForUndo 64 = .ok (.aaload, 1) := by decide +kernel
theorem dX6_keepForUndo_65 : decode cX6_keepForUndo 65 = .ok (.aload_n 0, 1) := by decide +kernel
theorem dX6_keepForUndo_66 : decode cX6_keepForUndo 66 = .ok (.getfield 20, 3) := by decide +kernel
theorem dX6_keepForUndo_69 : decode cX6_keepForUndo 69 = .ok (.invokevirtual 86, 3) := by decide +kernel
theorem dX6_keepForUndo_72 : decode cX6_keepForUndo 72 = .ok (.aload_n 0, 1) := by decide +kernel
theorem dX6_keepForUndo_73 : decode cX6_keepForUndo 73 = .ok (.dup, 1) := by decide +kernel
theorem dX6_keepForUndo_74 : decode cX6_keepForUndo 74 = .ok (.getfield 90, 3) := by decide +kernel
theorem dX6_keepForUndo_77 : decode cX6_keepForUndo 77 = .ok (.iconst 1, 1) := by decide +kernel
theorem dX6_keepForUndo_78 : decode cX6_keepForUndo 78 = .ok (.iadd, 1) := by decide +kernel
theorem dX6_keepForUndo_79 : decode cX6_keepForUndo 79 = .ok (.putfield 90, 3) := by decide +kernel
theorem dX6_keepForUndo_82 : decode cX6_keepForUndo 82 = .ok (.return_, 1) := by decide +kernel
theorem dX6_requireBeacon_0 : decode cX6_requireBeacon 0 = .ok (.iload_n 1, 1) := by decide +kernel
theorem dX6_requireBeacon_1 : decode cX6_requireBeacon 1 = .ok (.ifCond .lt 14, 3) := by decide +kernel
theorem dX6_requireBeacon_4 : decode cX6_requireBeacon 4 = .ok (.iload_n 1, 1) := by decide +kernel
theorem dX6_requireBeacon_5 : decode cX6_requireBeacon 5 = .ok (.aload_n 0, 1) := by decide +kernel
theorem dX6_requireBeacon_6 : decode cX6_requireBeacon 6 = .ok (.getfield 20, 3) := by decide +kernel
theorem dX6_requireBeacon_9 : decode cX6_requireBeacon 9 = .ok (.getfield 93, 3) := by decide +kernel
theorem dX6_requireBeacon_12 : decode cX6_requireBeacon 12 = .ok (.if_icmp .lt 11, 3) := by decide +kernel
theorem dX6_requireBeacon_15 : decode cX6_requireBeacon 15 = .ok (.new 299, 3) := by decide +kernel
theorem dX6_requireBeacon_18 : decode cX6_requireBeacon 18 = .ok (.dup, 1) := by decide +kernel
theorem dX6_requireBeacon_19 : decode cX6_requireBeacon 19 = .ok (.invokespecial 301, 3) := by decide +kernel
theorem dX6_requireBeacon_22 : decode cX6_requireBeacon 22 = .ok (.athrow, 1) := by decide +kernel
theorem dX6_requireBeacon_23 : decode cX6_requireBeacon 23 = .ok (.return_, 1) := by decide +kernel
theorem dX6_requireAhead_0 : decode cX6_requireAhead 0 = .ok (.iload_n 0, 1) := by decide +kernel
theorem dX6_requireAhead_1 : decode cX6_requireAhead 1 = .ok (.ifCond .lt 10, 3) := by decide +kernel
theorem dX6_requireAhead_4 : decode cX6_requireAhead 4 = .ok (.iload_n 0, 1) := by decide +kernel
theorem dX6_requireAhead_5 : decode cX6_requireAhead 5 = .ok (.sipush 200, 3) := by decide +kernel
theorem dX6_requireAhead_8 : decode cX6_requireAhead 8 = .ok (.if_icmp .le 11, 3) := by decide +kernel
theorem dX6_requireAhead_11 : decode cX6_requireAhead 11 = .ok (.new 65, 3) := by decide +kernel
theorem dX6_requireAhead_14 : decode cX6_requireAhead 14 = .ok (.dup, 1) := by decide +kernel
theorem dX6_requireAhead_15 : decode cX6_requireAhead 15 = .ok (.invokespecial 67, 3) := by decide +kernel
theorem dX6_requireAhead_18 : decode cX6_requireAhead 18 = .ok (.athrow, 1) := by decide +kernel
theorem dX6_requireAhead_19 : decode cX6_requireAhead 19 = .ok (.return_, 1) := by decide +kernel
theorem dX6_isCharge_0 : decode cX6_isCharge 0 = .ok (.iload_n 0, 1) := by decide +kernel
theorem dX6_isCharge_1 : decode cX6_isCharge 1 = .ok (.iconst 1, 1) := by decide +kernel
theorem dX6_isCharge_2 : decode cX6_isCharge 2 = .ok (.if_icmp .lt 14, 3) := by decide +kernel
theorem dX6_isCharge_5 : decode cX6_isCharge 5 = .ok (.iload_n 0, 1) := by decide +kernel
theorem dX6_isCharge_6 : decode cX6_isCharge 6 = .ok (.sipush 999, 3) := by decide +kernel
theorem dX6_isCharge_9 : decode cX6_isCharge 9 = .ok (.if_icmp .gt 7, 3) := by decide +kernel
theorem dX6_isCharge_12 : decode cX6_isCharge 12 = .ok (.iconst 1, 1) := by decide +kernel
theorem dX6_isCharge_13 : decode cX6_isCharge 13 = .ok (.goto 4, 3) := by decide +kernel
theorem dX6_isCharge_16 : decode cX6_isCharge 16 = .ok (.iconst 0, 1) := by decide +kernel
theorem dX6_isCharge_17 : decode cX6_isCharge 17 = .ok (.ireturn, 1) := by decide +kernel
theorem dX6_isIn_0 : decode cX6_isIn 0 = .ok (.iload_n 0, 1) := by decide +kernel
theorem dX6_isIn_1 : decode cX6_isIn 1 = .ok (.iload_n 1, 1) := by decide +kernel
theorem dX6_isIn_2 : decode cX6_isIn 2 = .ok (.ishr, 1) := by decide +kernel
theorem dX6_isIn_3 : decode cX6_isIn 3 = .ok (.iconst 1, 1) := by decide +kernel
theorem dX6_isIn_4 : decode cX6_isIn 4 = .ok (.iand, 1) := by decide +kernel
theorem dX6_isIn_5 : decode cX6_isIn 5 = .ok (.ifCond .eq 7, 3) := by decide +kernel
theorem dX6_isIn_8 : decode cX6_isIn 8 = .ok (.iconst 1, 1) := by decide +kernel
theorem dX6_isIn_9 : decode cX6_isIn 9 = .ok (.goto 4, 3) := by decide +kernel
theorem dX6_isIn_12 : decode cX6_isIn 12 = .ok (.iconst 0, 1) := by decide +kernel
theorem dX6_isIn_13 : decode cX6_isIn 13 = .ok (.ireturn, 1) := by decide +kernel
theorem dX6_letterOf_0 : decode cX6_letterOf 0 = .ok (.iload_n 2, 1) := by decide +kernel
theorem dX6_letterOf_1 : decode cX6_letterOf 1 = .ok (.ifCond .lt 9, 3) := by decide +kernel
theorem dX6_letterOf_4 : decode cX6_letterOf 4 = .ok (.iload_n 2, 1) := by decide +kernel
theorem dX6_letterOf_5 : decode cX6_letterOf 5 = .ok (.bipush 8, 2) := by decide +kernel
theorem dX6_letterOf_7 : decode cX6_letterOf 7 = .ok (.if_icmp .lt 7, 3) := by decide +kernel
theorem dX6_letterOf_10 : decode cX6_letterOf 10 = .ok (.iconst 0, 1) := by decide +kernel
theorem dX6_letterOf_11 : decode cX6_letterOf 11 = .ok (.goto 14, 3) := by decide +kernel
theorem dX6_letterOf_14 : decode cX6_letterOf 14 = .ok (.lload_n 0, 1) := by decide +kernel
theorem dX6_letterOf_15 : decode cX6_letterOf 15 = .ok (.bipush 8, 2) := by decide +kernel
theorem dX6_letterOf_17 : decode cX6_letterOf 17 = .ok (.iload_n 2, 1) := by decide +kernel
theorem dX6_letterOf_18 : decode cX6_letterOf 18 = .ok (.imul, 1) := by decide +kernel
theorem dX6_letterOf_19 : decode cX6_letterOf 19 = .ok (.lushr, 1) := by decide +kernel
theorem dX6_letterOf_20 : decode cX6_letterOf 20 = .ok (.l2i, 1) := by decide +kernel
theorem dX6_letterOf_21 : decode cX6_letterOf 21 = .ok (.sipush 255, 3) := by decide +kernel
theorem dX6_letterOf_24 : decode cX6_letterOf 24 = .ok (.iand, 1) := by decide +kernel
theorem dX6_letterOf_25 : decode cX6_letterOf 25 = .ok (.ireturn, 1) := by decide +kernel
theorem dX7_init_0 : decode cX7_init 0 = .ok (.aload_n 0, 1) := by decide +kernel
theorem dX7_init_1 : decode cX7_init 1 = .ok (.invokespecial 1, 3) := by decide +kernel
theorem dX7_init_4 : decode cX7_init 4 = .ok (.aload_n 0, 1) := by decide +kernel
theorem dX7_init_5 : decode cX7_init 5 = .ok (.iconst 2, 1) := by decide +kernel
theorem dX7_init_6 : decode cX7_init 6 = .ok (.putfield 7, 3) := by decide +kernel
theorem dX7_init_9 : decode cX7_init 9 = .ok (.aload_n 0, 1) := by decide +kernel
theorem dX7_init_10 : decode cX7_init 10 = .ok (.iconst 2, 1) := by decide +kernel
theorem dX7_init_11 : decode cX7_init 11 = .ok (.putfield 13, 3) := by decide +kernel
theorem dX7_init_14 : decode cX7_init 14 = .ok (.aload_n 0, 1) := by decide +kernel
theorem dX7_init_15 : decode cX7_init 15 = .ok (.sipush 999, 3) := by decide +kernel
theorem dX7_init_18 : decode cX7_init 18 = .ok (.putfield 16, 3) := by decide +kernel
theorem dX7_init_21 : decode cX7_init 21 = .ok (.aload_n 0, 1) := by decide +kernel
theorem dX7_init_22 : decode cX7_init 22 = .ok (.iconst 4, 1) := by decide +kernel
theorem dX7_init_23 : decode cX7_init 23 = .ok (.newarray .int, 2) := by decide +kernel
theorem dX7_init_25 : decode cX7_init 25 = .ok (.putfield 19, 3) := by decide +kernel
theorem dX7_init_28 : decode cX7_init 28 = .ok (.aload_n 0, 1) := by decide +kernel
theorem dX7_init_29 : decode cX7_init 29 = .ok (.bipush 8, 2) := by decide +kernel
theorem dX7_init_31 : decode cX7_init 31 = .ok (.newarray .int, 2) := by decide +kernel
theorem dX7_init_33 : decode cX7_init 33 = .ok (.putfield 23, 3) := by decide +kernel
theorem dX7_init_36 : decode cX7_init 36 = .ok (.aload_n 0, 1) := by decide +kernel
theorem dX7_init_37 : decode cX7_init 37 = .ok (.bipush 8, 2) := by decide +kernel
theorem dX7_init_39 : decode cX7_init 39 = .ok (.newarray .int, 2) := by decide +kernel
theorem dX7_init_41 : decode cX7_init 41 = .ok (.putfield 26, 3) := by decide +kernel
theorem dX7_init_44 : decode cX7_init 44 = .ok (.aload_n 0, 1) := by decide +kernel
theorem dX7_init_45 : decode cX7_init 45 = .ok (.bipush 8, 2) := by decide +kernel
theorem dX7_init_47 : decode cX7_init 47 = .ok (.newarray .int, 2) := by decide +kernel
theorem dX7_init_49 : decode cX7_init 49 = .ok (.putfield 29, 3) := by decide +kernel
theorem dX7_init_52 : decode cX7_init 52 = .ok (.aload_n 0, 1) := by decide +kernel
theorem dX7_init_53 : decode cX7_init 53 = .ok (.getfield 23, 3) := by decide +kernel
theorem dX7_init_56 : decode cX7_init 56 = .ok (.iconst (-1), 1) := by decide +kernel
theorem dX7_init_57 : decode cX7_init 57 = .ok (.invokestatic 32, 3) := by decide +kernel
theorem dX7_init_60 : decode cX7_init 60 = .ok (.aload_n 0, 1) := by decide +kernel
theorem dX7_init_61 : decode cX7_init 61 = .ok (.getfield 29, 3) := by decide +kernel
theorem dX7_init_64 : decode cX7_init 64 = .ok (.iconst 5, 1) := by decide +kernel
theorem dX7_init_65 : decode cX7_init 65 = .ok (.invokestatic 32, 3) := by decide +kernel
theorem dX7_init_68 : decode cX7_init 68 = .ok (.return_, 1) := by decide +kernel
theorem dX8_init_0 : decode cX8_init 0 = .ok (.aload_n 0, 1) := by decide +kernel
theorem dX8_init_1 : decode cX8_init 1 = .ok (.invokespecial 1, 3) := by decide +kernel
theorem dX8_init_4 : decode cX8_init 4 = .ok (.aload_n 0, 1) := by decide +kernel
theorem dX8_init_5 : decode cX8_init 5 = .ok (.iconst 1, 1) := by decide +kernel
theorem dX8_init_6 : decode cX8_init 6 = .ok (.putfield 7, 3) := by decide +kernel
theorem dX8_init_9 : decode cX8_init 9 = .ok (.aload_n 0, 1) := by decide +kernel
theorem dX8_init_10 : decode cX8_init 10 = .ok (.iconst 3, 1) := by decide +kernel
theorem dX8_init_11 : decode cX8_init 11 = .ok (.putfield 13, 3) := by decide +kernel
theorem dX8_init_14 : decode cX8_init 14 = .ok (.aload_n 0, 1) := by decide +kernel
theorem dX8_init_15 : decode cX8_init 15 = .ok (.bipush 99, 2) := by decide +kernel
theorem dX8_init_17 : decode cX8_init 17 = .ok (.putfield 16, 3) := by decide +kernel
theorem dX8_init_20 : decode cX8_init 20 = .ok (.aload_n 0, 1) := by decide +kernel
theorem dX8_init_21 : decode cX8_init 21 = .ok (.iconst 4, 1) := by decide +kernel
theorem dX8_init_22 : decode cX8_init 22 = .ok (.newarray .int, 2) := by decide +kernel
theorem dX8_init_24 : decode cX8_init 24 = .ok (.dup, 1) := by decide +kernel
theorem dX8_init_25 : decode cX8_init 25 = .ok (.iconst 0, 1) := by decide +kernel
theorem dX8_init_26 : decode cX8_init 26 = .ok (.iconst 1, 1) := by decide +kernel
theorem dX8_init_27 : decode cX8_init 27 = .ok (.iastore, 1) := by decide +kernel
theorem dX8_init_28 : decode cX8_init 28 = .ok (.dup, 1) := by decide +kernel
theorem dX8_init_29 : decode cX8_init 29 = .ok (.iconst 1, 1) := by decide +kernel
theorem dX8_init_30 : decode cX8_init 30 = .ok (.iconst 5, 1) := by decide +kernel
theorem dX8_init_31 : decode cX8_init 31 = .ok (.iastore, 1) := by decide +kernel
theorem dX8_init_32 : decode cX8_init 32 = .ok (.dup, 1) := by decide +kernel
theorem dX8_init_33 : decode cX8_init 33 = .ok (.iconst 2, 1) := by decide +kernel
theorem dX8_init_34 : decode cX8_init 34 = .ok (.iconst 3, 1) := by decide +kernel
theorem dX8_init_35 : decode cX8_init 35 = .ok (.iastore, 1) := by decide +kernel
theorem dX8_init_36 : decode cX8_init 36 = .ok (.dup, 1) := by decide +kernel
theorem dX8_init_37 : decode cX8_init 37 = .ok (.iconst 3, 1) := by decide +kernel
theorem dX8_init_38 : decode cX8_init 38 = .ok (.bipush 9, 2) := by decide +kernel
theorem dX8_init_40 : decode cX8_init 40 = .ok (.iastore, 1) := by decide +kernel
theorem dX8_init_41 : decode cX8_init 41 = .ok (.putfield 19, 3) := by decide +kernel
theorem dX8_init_44 : decode cX8_init 44 = .ok (.aload_n 0, 1) := by decide +kernel
theorem dX8_init_45 : decode cX8_init 45 = .ok (.bipush 8, 2) := by decide +kernel
theorem dX8_init_47 : decode cX8_init 47 = .ok (.bipush 8, 2) := by decide +kernel
theorem dX8_init_49 : decode cX8_init 49 = .ok (.multianewarray 23 2, 4) := by decide +kernel
theorem dX8_init_53 : decode cX8_init 53 = .ok (.putfield 25, 3) := by decide +kernel
theorem dX8_init_56 : decode cX8_init 56 = .ok (.aload_n 0, 1) := by decide +kernel
theorem dX8_init_57 : decode cX8_init 57 = .ok (.bipush 8, 2) := by decide +kernel
theorem dX8_init_59 : decode cX8_init 59 = .ok (.newarray .boolean, 2) := by decide +kernel
theorem dX8_init_61 : decode cX8_init 61 = .ok (.putfield 28, 3) := by decide +kernel
theorem dX8_init_64 : decode cX8_init 64 = .ok (.aload_n 0, 1) := by decide +kernel
theorem dX8_init_65 : decode cX8_init 65 = .ok (.new 32, 3) := by decide +kernel
theorem dX8_init_68 : decode cX8_init 68 = .ok (.dup, 1) := by decide +kernel
theorem dX8_init_69 : decode cX8_init 69 = .ok (.invokespecial 34, 3) := by decide +kernel
theorem dX8_init_72 : decode cX8_init 72 = .ok (.putfield 35, 3) := by decide +kernel
theorem dX8_init_75 : decode cX8_init 75 = .ok (.aload_n 0, 1) := by decide +kernel
theorem dX8_init_76 : decode cX8_init 76 = .ok (.ldc 39, 2) := by decide +kernel
theorem dX8_init_78 : decode cX8_init 78 = .ok (.putfield 41, 3) := by decide +kernel
theorem dX8_init_81 : decode cX8_init 81 = .ok (.return_, 1) := by decide +kernel
theorem dX8_grown_0 : decode cX8_grown 0 = .ok (.new 8, 3) := by decide +kernel
theorem dX8_grown_3 : decode cX8_grown 3 = .ok (.dup, 1) := by decide +kernel
theorem dX8_grown_4 : decode cX8_grown 4 = .ok (.invokespecial 45, 3) := by decide +kernel
theorem dX8_grown_7 : decode cX8_grown 7 = .ok (.astore_n 1, 1) := by decide +kernel
theorem dX8_grown_8 : decode cX8_grown 8 = .ok (.new 46, 3) := by decide +kernel
theorem dX8_grown_11 : decode cX8_grown 11 = .ok (.dup, 1) := by decide +kernel
theorem dX8_grown_12 : decode cX8_grown 12 = .ok (.invokespecial 48, 3) := by decide +kernel
theorem dX8_grown_15 : decode cX8_grown 15 = .ok (.astore_n 2, 1) := by decide +kernel
theorem dX8_grown_16 : decode cX8_grown 16 = .ok (.aload_n 0, 1) := by decide +kernel
theorem dX8_grown_17 : decode cX8_grown 17 = .ok (.iconst 1, 1) := by decide +kernel
theorem dX8_grown_18 : decode cX8_grown 18 = .ok (.bipush 6, 2) := by decide +kernel
theorem dX8_grown_20 : decode cX8_grown 20 = .ok (.invokestatic 49, 3) := by decide +kernel
theorem dX8_grown_23 : decode cX8_grown 23 = .ok (.istore_n 3, 1) := by decide +kernel
theorem dX8_grown_24 : decode cX8_grown 24 = .ok (.iconst 0, 1) := by decide +kernel
theorem dX8_grown_25 : decode cX8_grown 25 = .ok (.istore 4, 2) := by decide +kernel
theorem dX8_grown_27 : decode cX8_grown 27 = .ok (.iload 4, 2) := by decide +kernel
theorem dX8_grown_29 : decode cX8_grown 29 = .ok (.iload_n 3, 1) := by decide +kernel
theorem dX8_grown_30 : decode cX8_grown 30 = .ok (.if_icmp .ge 274, 3) := by decide +kernel
theorem dX8_grown_33 : decode cX8_grown 33 = .ok (.new 55, 3) := by decide +kernel
theorem dX8_grown_36 : decode cX8_grown 36 = .ok (.dup, 1) := by decide +kernel
theorem dX8_grown_37 : decode cX8_grown 37 = .ok (.invokespecial 57, 3) := by decide +kernel
theorem dX8_grown_40 : decode cX8_grown 40 = .ok (.astore 5, 2) := by decide +kernel
theorem dX8_grown_42 : decode cX8_grown 42 = .ok (.aload 5, 2) := by decide +kernel
theorem dX8_grown_44 : decode cX8_grown 44 = .ok (.iconst 2, 1) := by decide +kernel
theorem dX8_grown_45 : decode cX8_grown 45 = .ok (.aload_n 0, 1) := by decide +kernel
theorem dX8_grown_46 : decode cX8_grown 46 = .ok (.bipush 10, 2) := by decide +kernel
theorem dX8_grown_48 : decode cX8_grown 48 = .ok (.iload 4, 2) := by decide +kernel
theorem dX8_grown_50 : decode cX8_grown 50 = .ok (.iadd, 1) := by decide +kernel
theorem dX8_grown_51 : decode cX8_grown 51 = .ok (.bipush 14, 2) := by decide +kernel
theorem dX8_grown_53 : decode cX8_grown 53 = .ok (.invokestatic 49, 3) := by decide +kernel
theorem dX8_grown_56 : decode cX8_grown 56 = .ok (.iadd, 1) := by decide +kernel
theorem dX8_grown_57 : decode cX8_grown 57 = .ok (.putfield 58, 3) := by decide +kernel
theorem dX8_grown_60 : decode cX8_grown 60 = .ok (.aload 5, 2) := by decide +kernel
theorem dX8_grown_62 : decode cX8_grown 62 = .ok (.aload_n 0, 1) := by decide +kernel
theorem dX8_grown_63 : decode cX8_grown 63 = .ok (.bipush 20, 2) := by decide +kernel
theorem dX8_grown_65 : decode cX8_grown 65 = .ok (.iload 4, 2) := by decide +kernel
theorem dX8_grown_67 : decode cX8_grown 67 = .ok (.iadd, 1) := by decide +kernel
theorem dX8_grown_68 : decode cX8_grown 68 = .ok (.iconst 2, 1) := by decide +kernel
theorem dX8_grown_69 : decode cX8_grown 69 = .ok (.invokestatic 49, 3) := by decide +kernel
theorem dX8_grown_72 : decode cX8_grown 72 = .ok (.aload_n 0, 1) := by decide +kernel
theorem dX8_grown_73 : decode cX8_grown 73 = .ok (.bipush 30, 2) := by decide +kernel
theorem dX8_grown_75 : decode cX8_grown 75 = .ok (.iload 4, 2) := by decide +kernel
theorem dX8_grown_77 : decode cX8_grown 77 = .ok (.iadd, 1) := by decide +kernel
theorem dX8_grown_78 : decode cX8_grown 78 = .ok (.aload 5, 2) := by decide +kernel
theorem dX8_grown_80 : decode cX8_grown 80 = .ok (.getfield 58, 3) := by decide +kernel
theorem dX8_grown_83 : decode cX8_grown 83 = .ok (.invokestatic 49, 3) := by decide +kernel
theorem dX8_grown_86 : decode cX8_grown 86 = .ok (.imul, 1) := by decide +kernel
theorem dX8_grown_87 : decode cX8_grown 87 = .ok (.putfield 61, 3) := by decide +kernel
theorem dX8_grown_90 : decode cX8_grown 90 = .ok (.aload_n 2, 1) := by decide +kernel
theorem dX8_grown_91 : decode cX8_grown 91 = .ok (.ldc 64, 2) := by decide +kernel
theorem dX8_grown_93 : decode cX8_grown 93 = .ok (.invokevirtual 66, 3) := by decide +kernel
theorem dX8_grown_96 : decode cX8_grown 96 = .ok (.bipush 97, 2) := by decide +kernel
theorem dX8_grown_98 : decode cX8_grown 98 = .ok (.iload 4, 2) := by decide +kernel
theorem dX8_grown_100 : decode cX8_grown 100 = .ok (.iadd, 1) := by decide +kernel
theorem dX8_grown_101 : decode cX8_grown 101 = .ok (.i2c, 1) := by decide +kernel
theorem dX8_grown_102 : decode cX8_grown 102 = .ok (.invokevirtual 70, 3) := by decide +kernel
theorem dX8_grown_105 : decode cX8_grown 105 = .ok (.ldc 73, 2) := by decide +kernel
theorem dX8_grown_107 : decode cX8_grown 107 = .ok (.invokevirtual 66, 3) := by decide +kernel
theorem dX8_grown_110 : decode cX8_grown 110 = .ok (.aload 5, 2) := by decide +kernel
theorem dX8_grown_112 : decode cX8_grown 112 = .ok (.getfield 58, 3) := by decide +kernel
theorem dX8_grown_115 : decode cX8_grown 115 = .ok (.invokevirtual 75, 3) := by decide +kernel
theorem dX8_grown_118 : decode cX8_grown 118 = .ok (.pop, 1) := by decide +kernel
theorem dX8_grown_119 : decode cX8_grown 119 = .ok (.aload 5, 2) := by decide +kernel
theorem dX8_grown_121 : decode cX8_grown 121 = .ok (.getfield 61, 3) := by decide +kernel
theorem dX8_grown_124 : decode cX8_grown 124 = .ok (.ifCond .le 18, 3) := by decide +kernel
theorem dX8_grown_127 : decode cX8_grown 127 = .ok (.aload_n 2, 1) := by decide +kernel
theorem dX8_grown_128 : decode cX8_grown 128 = .ok (.ldc 78, 2) := by decide +kernel
theorem dX8_grown_130 : decode cX8_grown 130 = .ok (.invokevirtual 66, 3) := by decide +kernel
theorem dX8_grown_133 : decode cX8_grown 133 = .ok (.aload 5, 2) := by decide +kernel
theorem dX8_grown_135 : decode cX8_grown 135 = .ok (.getfield 61, 3) := by decide +kernel
theorem dX8_grown_138 : decode cX8_grown 138 = .ok (.invokevirtual 75, 3) := by decide +kernel
theorem dX8_grown_141 : decode cX8_grown 141 = .ok (.pop, 1) := by decide +kernel
theorem dX8_grown_142 : decode cX8_grown 142 = .ok (.aload_n 0, 1) := by decide +kernel
theorem dX8_grown_143 : decode cX8_grown 143 = .ok (.bipush 40, 2) := by decide +kernel
theorem dX8_grown_145 : decode cX8_grown 145 = .ok (.iload 4, 2) := by decide +kernel
theorem dX8_grown_147 : decode cX8_grown 147 = .ok (.iadd, 1) := by decide +kernel
theorem dX8_grown_148 : decode cX8_grown 148 = .ok (.iconst 2, 1) := by decide +kernel
theorem dX8_grown_149 : decode cX8_grown 149 = .ok (.invokestatic 49, 3) := by decide +kernel
theorem dX8_grown_152 : decode cX8_grown 152 = .ok (.ifCond .ne 35, 3) := by decide +kernel
theorem dX8_grown_155 : decode cX8_grown 155 = .ok (.aload 5, 2) := by decide +kernel
theorem dX8_grown_157 : decode cX8_grown 157 = .ok (.iconst 1, 1) := by decide +kernel
theorem dX8_grown_158 : decode cX8_grown 158 = .ok (.aload_n 0, 1) := by decide +kernel
theorem dX8_grown_159 : decode cX8_grown 159 = .ok (.bipush 50, 2) := by decide +kernel
theorem dX8_grown_161 : decode cX8_grown 161 = .ok (.iload 4, 2) := by decide +kernel
theorem dX8_grown_163 : decode cX8_grown 163 = .ok (.iadd, 1) := by decide +kernel
theorem dX8_grown_164 : decode cX8_grown 164 = .ok (.iconst 3, 1) := by decide +kernel
theorem dX8_grown_165 : decode cX8_grown 165 = .ok (.invokestatic 49, 3) := by decide +kernel
theorem dX8_grown_168 : decode cX8_grown 168 = .ok (.iadd, 1) := by decide +kernel
theorem dX8_grown_169 : decode cX8_grown 169 = .ok (.putfield 80, 3) := by decide +kernel
theorem dX8_grown_172 : decode cX8_grown 172 = .ok (.aload_n 2, 1) := by decide +kernel
theorem dX8_grown_173 : decode cX8_grown 173 = .ok (.ldc 83, 2) := by decide +kernel
theorem dX8_grown_175 : decode cX8_grown 175 = .ok (.invokevirtual 66, 3) := by decide +kernel
theorem dX8_grown_178 : decode cX8_grown 178 = .ok (.aload 5, 2) := by decide +kernel
theorem dX8_grown_180 : decode cX8_grown 180 = .ok (.getfield 80, 3) := by decide +kernel
theorem dX8_grown_183 : decode cX8_grown 183 = .ok (.invokevirtual 75, 3) := by decide +kernel
theorem dX8_grown_186 : decode cX8_grown 186 = .ok (.pop, 1) := by decide +kernel
theorem dX8_grown_187 : decode cX8_grown 187 = .ok (.aload_n 0, 1) := by decide +kernel
theorem dX8_grown_188 : decode cX8_grown 188 = .ok (.bipush 60, 2) := by decide +kernel
theorem dX8_grown_190 : decode cX8_grown 190 = .ok (.iload 4, 2) := by decide +kernel
theorem dX8_grown_192 : decode cX8_grown 192 = .ok (.iadd, 1) := by decide +kernel
theorem dX8_grown_193 : decode cX8_grown 193 = .ok (.iconst 2, 1) := by decide +kernel
theorem dX8_grown_194 : decode cX8_grown 194 = .ok (.invokestatic 49, 3) := by decide +kernel
theorem dX8_grown_197 : decode cX8_grown 197 = .ok (.ifCond .ne 35, 3) := by decide +kernel
theorem dX8_grown_200 : decode cX8_grown 200 = .ok (.aload 5, 2) := by decide +kernel
theorem dX8_grown_202 : decode cX8_grown 202 = .ok (.iconst 1, 1) := by decide +kernel
theorem dX8_grown_203 : decode cX8_grown 203 = .ok (.aload_n 0, 1) := by decide +kernel
theorem dX8_grown_204 : decode cX8_grown 204 = .ok (.bipush 70, 2) := by decide +kernel
theorem dX8_grown_206 : decode cX8_grown 206 = .ok (.iload 4, 2) := by decide +kernel
theorem dX8_grown_208 : decode cX8_grown 208 = .ok (.iadd, 1) := by decide +kernel
theorem dX8_grown_209 : decode cX8_grown 209 = .ok (.iconst 3, 1) := by decide +kernel
theorem dX8_grown_210 : decode cX8_grown 210 = .ok (.invokestatic 49, 3) := by decide +kernel
theorem dX8_grown_213 : decode cX8_grown 213 = .ok (.iadd, 1) := by decide +kernel
theorem dX8_grown_214 : decode cX8_grown 214 = .ok (.putfield 85, 3) := by decide +kernel
theorem dX8_grown_217 : decode cX8_grown 217 = .ok (.aload_n 2, 1) := by decide +kernel
theorem dX8_grown_218 : decode cX8_grown 218 = .ok (.ldc 88, 2) := by decide +kernel
theorem dX8_grown_220 : decode cX8_grown 220 = .ok (.invokevirtual 66, 3) := by decide +kernel
theorem dX8_grown_223 : decode cX8_grown 223 = .ok (.aload 5, 2) := by decide +kernel
theorem dX8_grown_225 : decode cX8_grown 225 = .ok (.getfield 85, 3) := by decide +kernel
theorem dX8_grown_228 : decode cX8_grown 228 = .ok (.invokevirtual 75, 3) := by decide +kernel
theorem dX8_grown_231 : decode cX8_grown 231 = .ok (.pop, 1) := by decide +kernel
theorem dX8_grown_232 : decode cX8_grown 232 = .ok (.aload_n 0, 1) := by decide +kernel
theorem dX8_grown_233 : decode cX8_grown 233 = .ok (.bipush 80, 2) := by decide +kernel
theorem dX8_grown_235 : decode cX8_grown 235 = .ok (.iload 4, 2) := by decide +kernel
theorem dX8_grown_237 : decode cX8_grown 237 = .ok (.iadd, 1) := by decide +kernel
theorem dX8_grown_238 : decode cX8_grown 238 = .ok (.iconst 2, 1) := by decide +kernel
theorem dX8_grown_239 : decode cX8_grown 239 = .ok (.invokestatic 49, 3) := by decide +kernel
theorem dX8_grown_242 : decode cX8_grown 242 = .ok (.ifCond .ne 37, 3) := by decide +kernel
theorem dX8_grown_245 : decode cX8_grown 245 = .ok (.aload 5, 2) := by decide +kernel
theorem dX8_grown_247 : decode cX8_grown 247 = .ok (.iconst 1, 1) := by decide +kernel
theorem dX8_grown_248 : decode cX8_grown 248 = .ok (.aload_n 0, 1) := by decide +kernel
theorem dX8_grown_249 : decode cX8_grown 249 = .ok (.bipush 90, 2) := by decide +kernel
theorem dX8_grown_251 : decode cX8_grown 251 = .ok (.iload 4, 2) := by decide +kernel
theorem dX8_grown_253 : decode cX8_grown 253 = .ok (.iadd, 1) := by decide +kernel
theorem dX8_grown_254 : decode cX8_grown 254 = .ok (.sipush 300, 3) := by decide +kernel
theorem dX8_grown_257 : decode cX8_grown 257 = .ok (.invokestatic 49, 3) := by decide +kernel
theorem dX8_grown_260 : decode cX8_grown 260 = .ok (.iadd, 1) := by decide +kernel
theorem dX8_grown_261 : decode cX8_grown 261 = .ok (.putfield 90, 3) := by decide +kernel
theorem dX8_grown_264 : decode cX8_grown 264 = .ok (.aload_n 2, 1) := by decide +kernel
theorem dX8_grown_265 : decode cX8_grown 265 = .ok (.ldc 93, 2) := by decide +kernel
theorem dX8_grown_267 : decode cX8_grown 267 = .ok (.invokevirtual 66, 3) := by decide +kernel
theorem dX8_grown_270 : decode cX8_grown 270 = .ok (.aload 5, 2) := by decide +kernel
theorem dX8_grown_272 : decode cX8_grown 272 = .ok (.getfield 90, 3) := by decide +kernel
theorem dX8_grown_275 : decode cX8_grown 275 = .ok (.invokevirtual 75, 3) := by decide +kernel
theorem dX8_grown_278 : decode cX8_grown 278 = .ok (.pop, 1) := by decide +kernel
theorem dX8_grown_279 : decode cX8_grown 279 = .ok (.aload_n 2, 1) := by decide +kernel
theorem dX8_grown_280 : decode cX8_grown 280 = .ok (.ldc 95, 2) := by decide +kernel
theorem dX8_grown_282 : decode cX8_grown 282 = .ok (.invokevirtual 66, 3) := by decide +kernel
theorem dX8_grown_285 : decode cX8_grown 285 = .ok (.pop, 1) := by decide +kernel
theorem dX8_grown_286 : decode cX8_grown 286 = .ok (.aload_n 1, 1) := by decide +kernel
theorem dX8_grown_287 : decode cX8_grown 287 = .ok (.getfield 35, 3) := by decide +kernel
theorem dX8_grown_290 : decode cX8_grown 290 = .ok (.aload 5, 2) := by decide +kernel
theorem dX8_grown_292 : decode cX8_grown 292 = .ok (.invokeinterface 97 2, 5) := by decide +kernel
theorem dX8_grown_297 : decode cX8_grown 297 = .ok (.pop, 1) := by decide +kernel
theorem dX8_grown_298 : decode cX8_grown 298 = .ok (.iinc 4 1, 3) := by decide +kernel
theorem dX8_grown_301 : decode cX8_grown 301 = .ok (.goto (-274), 3) := by decide +kernel
theorem dX8_grown_304 : decode cX8_grown 304 = .ok (.aload_n 0, 1) := by decide +kernel
theorem dX8_grown_305 : decode cX8_grown 305 = .ok (.iconst 2, 1) := by decide +kernel
theorem dX8_grown_306 : decode cX8_grown 306 = .ok (.iconst 2, 1) := by decide +kernel
theorem dX8_grown_307 : decode cX8_grown 307 = .ok (.invokestatic 49, 3) := by decide +kernel
theorem dX8_grown_310 : decode cX8_grown 310 = .ok (.ifCond .ne 67, 3) := by decide +kernel
theorem dX8_grown_313 : decode cX8_grown 313 = .ok (.aload_n 2, 1) := by decide +kernel
theorem dX8_grown_314 : decode cX8_grown 314 = .ok (.ldc 103, 2) := by decide +kernel
theorem dX8_grown_316 : decode cX8_grown 316 = .ok (.invokevirtual 66, 3) := by decide +kernel
theorem dX8_grown_319 : decode cX8_grown 319 = .ok (.pop, 1) := by decide +kernel
theorem dX8_grown_320 : decode cX8_grown 320 = .ok (.iconst 0, 1) := by decide +kernel
theorem dX8_grown_321 : decode cX8_grown 321 = .ok (.istore 4, 2) := by decide +kernel
theorem dX8_grown_323 : decode cX8_grown 323 = .ok (.iload 4, 2) := by decide +kernel
theorem dX8_grown_325 : decode cX8_grown 325 = .ok (.iconst 4, 1) := by decide +kernel
theorem dX8_grown_326 : decode cX8_grown 326 = .ok (.if_icmp .ge 44, 3) := by decide +kernel
theorem dX8_grown_329 : decode cX8_grown 329 = .ok (.aload_n 1, 1) := by decide +kernel
theorem dX8_grown_330 : decode cX8_grown 330 = .ok (.getfield 19, 3) := by decide +kernel
theorem dX8_grown_333 : decode cX8_grown 333 = .ok (.iload 4, 2) := by decide +kernel
theorem dX8_grown_335 : decode cX8_grown 335 = .ok (.aload_n 0, 1) := by decide +kernel
theorem dX8_grown_336 : decode cX8_grown 336 = .ok (.bipush 110, 2) := by decide +kernel
theorem dX8_grown_338 : decode cX8_grown 338 = .ok (.iload 4, 2) := by decide +kernel
theorem dX8_grown_340 : decode cX8_grown 340 = .ok (.iadd, 1) := by decide +kernel
theorem dX8_grown_341 : decode cX8_grown 341 = .ok (.bipush 8, 2) := by decide +kernel
theorem dX8_grown_343 : decode cX8_grown 343 = .ok (.invokestatic 49, 3) := by decide +kernel
theorem dX8_grown_346 : decode cX8_grown 346 = .ok (.iastore, 1) := by decide +kernel
theorem dX8_grown_347 : decode cX8_grown 347 = .ok (.aload_n 2, 1) := by decide +kernel
theorem dX8_grown_348 : decode cX8_grown 348 = .ok (.ldc 105, 2) := by decide +kernel
theorem dX8_grown_350 : decode cX8_grown 350 = .ok (.invokevirtual 66, 3) := by decide +kernel
theorem dX8_grown_353 : decode cX8_grown 353 = .ok (.aload_n 1, 1) := by decide +kernel
theorem dX8_grown_354 : decode cX8_grown 354 = .ok (.getfield 19, 3) := by decide +kernel
theorem dX8_grown_357 : decode cX8_grown 357 = .ok (.iload 4, 2) := by decide +kernel
theorem dX8_grown_359 : decode cX8_grown 359 = .ok (.iaload, 1) := by decide +kernel
theorem dX8_grown_360 : decode cX8_grown 360 = .ok (.invokevirtual 75, 3) := by decide +kernel
theorem dX8_grown_363 : decode cX8_grown 363 = .ok (.pop, 1) := by decide +kernel
theorem dX8_grown_364 : decode cX8_grown 364 = .ok (.iinc 4 1, 3) := by decide +kernel
theorem dX8_grown_367 : decode cX8_grown 367 = .ok (.goto (-44), 3) := by decide +kernel
theorem dX8_grown_370 : decode cX8_grown 370 = .ok (.aload_n 2, 1) := by decide +kernel
theorem dX8_grown_371 : decode cX8_grown 371 = .ok (.ldc 107, 2) := by decide +kernel
theorem dX8_grown_373 : decode cX8_grown 373 = .ok (.invokevirtual 66, 3) := by decide +kernel
theorem dX8_grown_376 : decode cX8_grown 376 = .ok (.pop, 1) := by decide +kernel
theorem dX8_grown_377 : decode cX8_grown 377 = .ok (.aload_n 0, 1) := by decide +kernel
theorem dX8_grown_378 : decode cX8_grown 378 = .ok (.iconst 3, 1) := by decide +kernel
theorem dX8_grown_379 : decode cX8_grown 379 = .ok (.iconst 2, 1) := by decide +kernel
theorem dX8_grown_380 : decode cX8_grown 380 = .ok (.invokestatic 49, 3) := by decide +kernel
theorem dX8_grown_383 : decode cX8_grown 383 = .ok (.ifCond .ne 34, 3) := by decide +kernel
theorem dX8_grown_386 : decode cX8_grown 386 = .ok (.aload_n 1, 1) := by decide +kernel
theorem dX8_grown_387 : decode cX8_grown 387 = .ok (.aload_n 0, 1) := by decide +kernel
theorem dX8_grown_388 : decode cX8_grown 388 = .ok (.iconst 4, 1) := by decide +kernel
theorem dX8_grown_389 : decode cX8_grown 389 = .ok (.sipush 1000, 3) := by decide +kernel
theorem dX8_grown_392 : decode cX8_grown 392 = .ok (.invokestatic 49, 3) := by decide +kernel
theorem dX8_grown_395 : decode cX8_grown 395 = .ok (.putfield 7, 3) := by decide +kernel
theorem dX8_grown_398 : decode cX8_grown 398 = .ok (.aload_n 2, 1) := by decide +kernel
theorem dX8_grown_399 : decode cX8_grown 399 = .ok (.ldc 109, 2) := by decide +kernel
theorem dX8_grown_401 : decode cX8_grown 401 = .ok (.invokevirtual 66, 3) := by decide +kernel
theorem dX8_grown_404 : decode cX8_grown 404 = .ok (.aload_n 1, 1) := by decide +kernel
theorem dX8_grown_405 : decode cX8_grown 405 = .ok (.getfield 7, 3) := by decide +kernel
theorem dX8_grown_408 : decode cX8_grown 408 = .ok (.invokevirtual 75, 3) := by decide +kernel
theorem dX8_grown_411 : decode cX8_grown 411 = .ok (.ldc 95, 2) := by decide +kernel
theorem dX8_grown_413 : decode cX8_grown 413 = .ok (.invokevirtual 66, 3) := by decide +kernel
theorem dX8_grown_416 : decode cX8_grown 416 = .ok (.pop, 1) := by decide +kernel
theorem dX8_grown_417 : decode cX8_grown 417 = .ok (.aload_n 0, 1) := by decide +kernel
theorem dX8_grown_418 : decode cX8_grown 418 = .ok (.iconst 5, 1) := by decide +kernel
theorem dX8_grown_419 : decode cX8_grown 419 = .ok (.iconst 2, 1) := by decide +kernel
theorem dX8_grown_420 : decode cX8_grown 420 = .ok (.invokestatic 49, 3) := by decide +kernel
theorem dX8_grown_423 : decode cX8_grown 423 = .ok (.ifCond .ne 35, 3) := by decide +kernel
theorem dX8_grown_426 : decode cX8_grown 426 = .ok (.aload_n 1, 1) := by decide +kernel
theorem dX8_grown_427 : decode cX8_grown 427 = .ok (.iconst 1, 1) := by decide +kernel
theorem dX8_grown_428 : decode cX8_grown 428 = .ok (.aload_n 0, 1) := by decide +kernel
theorem dX8_grown_429 : decode cX8_grown 429 = .ok (.bipush 6, 2) := by decide +kernel
theorem dX8_grown_431 : decode cX8_grown 431 = .ok (.iconst 4, 1) := by decide +kernel
theorem dX8_grown_432 : decode cX8_grown 432 = .ok (.invokestatic 49, 3) := by decide +kernel
theorem dX8_grown_435 : decode cX8_grown 435 = .ok (.iadd, 1) := by decide +kernel
theorem dX8_grown_436 : decode cX8_grown 436 = .ok (.putfield 13, 3) := by decide +kernel
theorem dX8_grown_439 : decode cX8_grown 439 = .ok (.aload_n 2, 1) := by decide +kernel
theorem dX8_grown_440 : decode cX8_grown 440 = .ok (.ldc 111, 2) := by decide +kernel
theorem dX8_grown_442 : decode cX8_grown 442 = .ok (.invokevirtual 66, 3) := by decide +kernel
theorem dX8_grown_445 : decode cX8_grown 445 = .ok (.aload_n 1, 1) := by decide +kernel
theorem dX8_grown_446 : decode cX8_grown 446 = .ok (.getfield 13, 3) := by decide +kernel
theorem dX8_grown_449 : decode cX8_grown 449 = .ok (.invokevirtual 75, 3) := by decide +kernel
theorem dX8_grown_452 : decode cX8_grown 452 = .ok (.ldc 95, 2) := by decide +kernel
theorem dX8_grown_454 : decode cX8_grown 454 = .ok (.invokevirtual 66, 3) := by decide +kernel
theorem dX8_grown_457 : decode cX8_grown 457 = .ok (.pop, 1) := by decide +kernel
theorem dX8_grown_458 : decode cX8_grown 458 = .ok (.aload_n 0, 1) := by decide +kernel
theorem dX8_grown_459 : decode cX8_grown 459 = .ok (.bipush 7, 2) := by decide +kernel
theorem dX8_grown_461 : decode cX8_grown 461 = .ok (.iconst 2, 1) := by decide +kernel
theorem dX8_grown_462 : decode cX8_grown 462 = .ok (.invokestatic 49, 3) := by decide +kernel
theorem dX8_grown_465 : decode cX8_grown 465 = .ok (.ifCond .ne 36, 3) := by decide +kernel
theorem dX8_grown_468 : decode cX8_grown 468 = .ok (.aload_n 1, 1) := by decide +kernel
theorem dX8_grown_469 : decode cX8_grown 469 = .ok (.iconst 1, 1) := by decide +kernel
theorem dX8_grown_470 : decode cX8_grown 470 = .ok (.aload_n 0, 1) := by decide +kernel
theorem dX8_grown_471 : decode cX8_grown 471 = .ok (.bipush 8, 2) := by decide +kernel
theorem dX8_grown_473 : decode cX8_grown 473 = .ok (.bipush 60, 2) := by decide +kernel
theorem dX8_grown_475 : decode cX8_grown 475 = .ok (.invokestatic 49, 3) := by decide +kernel
theorem dX8_grown_478 : decode cX8_grown 478 = .ok (.iadd, 1) := by decide +kernel
theorem dX8_grown_479 : decode cX8_grown 479 = .ok (.putfield 16, 3) := by decide +kernel
theorem dX8_grown_482 : decode cX8_grown 482 = .ok (.aload_n 2, 1) := by decide +kernel
theorem dX8_grown_483 : decode cX8_grown 483 = .ok (.ldc 113, 2) := by decide +kernel
theorem dX8_grown_485 : decode cX8_grown 485 = .ok (.invokevirtual 66, 3) := by decide +kernel
theorem dX8_grown_488 : decode cX8_grown 488 = .ok (.aload_n 1, 1) := by decide +kernel
theorem dX8_grown_489 : decode cX8_grown 489 = .ok (.getfield 16, 3) := by decide +kernel
theorem dX8_grown_492 : decode cX8_grown 492 = .ok (.invokevirtual 75, 3) := by decide +kernel
theorem dX8_grown_495 : decode cX8_grown 495 = .ok (.ldc 95, 2) := by decide +kernel
theorem dX8_grown_497 : decode cX8_grown 497 = .ok (.invokevirtual 66, 3) := by decide +kernel
theorem dX8_grown_500 : decode cX8_grown 500 = .ok (.pop, 1) := by decide +kernel
theorem dX8_grown_501 : decode cX8_grown 501 = .ok (.iconst 0, 1) := by decide +kernel
theorem dX8_grown_502 : decode cX8_grown 502 = .ok (.istore 4, 2) := by decide +kernel
theorem dX8_grown_504 : decode cX8_grown 504 = .ok (.iload 4, 2) := by decide +kernel
theorem dX8_grown_506 : decode cX8_grown 506 = .ok (.iload_n 3, 1) := by decide +kernel
theorem dX8_grown_507 : decode cX8_grown 507 = .ok (.if_icmp .ge 106, 3) := by decide +kernel
theorem dX8_grown_510 : decode cX8_grown 510 = .ok (.iload 4, 2) := by decide +kernel
theorem dX8_grown_512 : decode cX8_grown 512 = .ok (.iconst 1, 1) := by decide +kernel
theorem dX8_grown_513 : decode cX8_grown 513 = .ok (.iadd, 1) := by decide +kernel
theorem dX8_grown_514 : decode cX8_grown 514 = .ok (.istore 5, 2) := by decide +kernel
theorem dX8_grown_516 : decode cX8_grown 516 = .ok (.iload 5, 2) := by decide +kernel
theorem dX8_grown_518 : decode cX8_grown 518 = .ok (.iload_n 3, 1) := by decide +kernel
theorem dX8_grown_519 : decode cX8_grown 519 = .ok (.if_icmp .ge 88, 3) := by decide +kernel
theorem dX8_grown_522 : decode cX8_grown 522 = .ok (.aload_n 0, 1) := by decide +kernel
theorem dX8_grown_523 : decode cX8_grown 523 = .ok (.bipush 120, 2) := by decide +kernel
theorem dX8_grown_525 : decode cX8_grown 525 = .ok (.bipush 8, 2) := by decide +kernel
theorem dX8_grown_527 : decode cX8_grown 527 = .ok (.iload 4, 2) := by decide +kernel
theorem dX8_grown_529 : decode cX8_grown 529 = .ok (.imul, 1) := by decide +kernel
theorem dX8_grown_530 : decode cX8_grown 530 = .ok (.iadd, 1) := by decide +kernel
theorem dX8_grown_531 : decode cX8_grown 531 = .ok (.iload 5, 2) := by decide +kernel
theorem dX8_grown_533 : decode cX8_grown 533 = .ok (.iadd, 1) := by decide +kernel
theorem dX8_grown_534 : decode cX8_grown 534 = .ok (.iconst 3, 1) := by decide +kernel
theorem dX8_grown_535 : decode cX8_grown 535 = .ok (.invokestatic 49, 3) := by decide +kernel
theorem dX8_grown_538 : decode cX8_grown 538 = .ok (.ifCond .ne 6, 3) := by decide +kernel
theorem dX8_grown_541 : decode cX8_grown 541 = .ok (.goto 60, 3) := by decide +kernel
theorem dX8_grown_544 : decode cX8_grown 544 = .ok (.aload_n 1, 1) := by decide +kernel
theorem dX8_grown_545 : decode cX8_grown 545 = .ok (.getfield 25, 3) := by decide +kernel
theorem dX8_grown_548 : decode cX8_grown 548 = .ok (.iload 4, 2) := by decide +kernel
theorem dX8_grown_550 : decode cX8_grown 550 = .ok (.aaload, 1) := by decide +kernel
theorem dX8_grown_551 : decode cX8_grown 551 = .ok (.iload 5, 2) := by decide +kernel
theorem dX8_grown_553 : decode cX8_grown 553 = .ok (.iconst 1, 1) := by decide +kernel
theorem dX8_grown_554 : decode cX8_grown 554 = .ok (.bastore, 1) := by decide +kernel
theorem dX8_grown_555 : decode cX8_grown 555 = .ok (.aload_n 1, 1) := by decide +kernel
theorem dX8_grown_556 : decode cX8_grown 556 = .ok (.getfield 25, 3) := by decide +kernel
theorem dX8_grown_559 : decode cX8_grown 559 = .ok (.iload 5, 2) := by decide +kernel
theorem dX8_grown_561 : decode cX8_grown 561 = .ok (.aaload, 1) := by decide +kernel
theorem dX8_grown_562 : decode cX8_grown 562 = .ok (.iload 4, 2) := by decide +kernel
theorem dX8_grown_564 : decode cX8_grown 564 = .ok (.iconst 1, 1) := by decide +kernel
theorem dX8_grown_565 : decode cX8_grown 565 = .ok (.bastore, 1) := by decide +kernel
theorem dX8_grown_566 : decode cX8_grown 566 = .ok (.aload_n 2, 1) := by decide +kernel
theorem dX8_grown_567 : decode cX8_grown 567 = .ok (.ldc 115, 2) := by decide +kernel
theorem dX8_grown_569 : decode cX8_grown 569 = .ok (.invokevirtual 66, 3) := by decide +kernel
theorem dX8_grown_572 : decode cX8_grown 572 = .ok (.bipush 97, 2) := by decide +kernel
theorem dX8_grown_574 : decode cX8_grown 574 = .ok (.iload 5, 2) := by decide +kernel
theorem dX8_grown_576 : decode cX8_grown 576 = .ok (.iadd, 1) := by decide +kernel
theorem dX8_grown_577 : decode cX8_grown 577 = .ok (.i2c, 1) := by decide +kernel
theorem dX8_grown_578 : decode cX8_grown 578 = .ok (.invokevirtual 70, 3) := by decide +kernel
theorem dX8_grown_581 : decode cX8_grown 581 = .ok (.ldc 105, 2) := by decide +kernel
theorem dX8_grown_583 : decode cX8_grown 583 = .ok (.invokevirtual 66, 3) := by decide +kernel
theorem dX8_grown_586 : decode cX8_grown 586 = .ok (.bipush 97, 2) := by decide +kernel
theorem dX8_grown_588 : decode cX8_grown 588 = .ok (.iload 4, 2) := by decide +kernel
theorem dX8_grown_590 : decode cX8_grown 590 = .ok (.iadd, 1) := by decide +kernel
theorem dX8_grown_591 : decode cX8_grown 591 = .ok (.i2c, 1) := by decide +kernel
theorem dX8_grown_592 : decode cX8_grown 592 = .ok (.invokevirtual 70, 3) := by decide +kernel
theorem dX8_grown_595 : decode cX8_grown 595 = .ok (.ldc 95, 2) := by decide +kernel
theorem dX8_grown_597 : decode cX8_grown 597 = .ok (.invokevirtual 66, 3) := by decide +kernel
theorem dX8_grown_600 : decode cX8_grown 600 = .ok (.pop, 1) := by decide +kernel
theorem dX8_grown_601 : decode cX8_grown 601 = .ok (.iinc 5 1, 3) := by decide +kernel
theorem dX8_grown_604 : decode cX8_grown 604 = .ok (.goto (-88), 3) := by decide +kernel
theorem dX8_grown_607 : decode cX8_grown 607 = .ok (.iinc 4 1, 3) := by decide +kernel
theorem dX8_grown_610 : decode cX8_grown 610 = .ok (.goto (-106), 3) := by decide +kernel
theorem dX8_grown_613 : decode cX8_grown 613 = .ok (.aload_n 1, 1) := by decide +kernel
theorem dX8_grown_614 : decode cX8_grown 614 = .ok (.aload_n 2, 1) := by decide +kernel
theorem dX8_grown_615 : decode cX8_grown 615 = .ok (.invokevirtual 117, 3) := by decide +kernel
theorem dX8_grown_618 : decode cX8_grown 618 = .ok (.putfield 41, 3) := by decide +kernel
theorem dX8_grown_621 : decode cX8_grown 621 = .ok (.aload_n 1, 1) := by decide +kernel
theorem dX8_grown_622 : decode cX8_grown 622 = .ok (.areturn, 1) := by decide +kernel
theorem dX8_knows_0 : decode cX8_knows 0 = .ok (.aload_n 0, 1) := by decide +kernel
theorem dX8_knows_1 : decode cX8_knows 1 = .ok (.getfield 35, 3) := by decide +kernel
theorem dX8_knows_4 : decode cX8_knows 4 = .ok (.iload_n 1, 1) := by decide +kernel
theorem dX8_knows_5 : decode cX8_knows 5 = .ok (.invokeinterface 155 2, 5) := by decide +kernel
theorem dX8_knows_10 : decode cX8_knows 10 = .ok (.checkcast 55, 3) := by decide +kernel
theorem dX8_knows_13 : decode cX8_knows 13 = .ok (.getfield 159, 3) := by decide +kernel
theorem dX8_knows_16 : decode cX8_knows 16 = .ok (.iload_n 2, 1) := by decide +kernel
theorem dX8_knows_17 : decode cX8_knows 17 = .ok (.iaload, 1) := by decide +kernel
theorem dX8_knows_18 : decode cX8_knows 18 = .ok (.ifCond .lt 37, 3) := by decide +kernel
theorem dX8_knows_21 : decode cX8_knows 21 = .ok (.aload_n 0, 1) := by decide +kernel
theorem dX8_knows_22 : decode cX8_knows 22 = .ok (.getfield 121, 3) := by decide +kernel
theorem dX8_knows_25 : decode cX8_knows 25 = .ok (.aload_n 0, 1) := by decide +kernel
theorem dX8_knows_26 : decode cX8_knows 26 = .ok (.getfield 35, 3) := by decide +kernel
theorem dX8_knows_29 : decode cX8_knows 29 = .ok (.iload_n 1, 1) := by decide +kernel
theorem dX8_knows_30 : decode cX8_knows 30 = .ok (.invokeinterface 155 2, 5) := by decide +kernel
theorem dX8_knows_35 : decode cX8_knows 35 = .ok (.checkcast 55, 3) := by decide +kernel
theorem dX8_knows_38 : decode cX8_knows 38 = .ok (.getfield 159, 3) := by decide +kernel
theorem dX8_knows_41 : decode cX8_knows 41 = .ok (.iload_n 2, 1) := by decide +kernel
theorem dX8_knows_42 : decode cX8_knows 42 = .ok (.iaload, 1) := by decide +kernel
theorem dX8_knows_43 : decode cX8_knows 43 = .ok (.isub, 1) := by decide +kernel
theorem dX8_knows_44 : decode cX8_knows 44 = .ok (.aload_n 0, 1) := by decide +kernel
theorem dX8_knows_45 : decode cX8_knows 45 = .ok (.getfield 16, 3) := by decide +kernel
theorem dX8_knows_48 : decode cX8_knows 48 = .ok (.if_icmp .gt 7, 3) := by decide +kernel
theorem dX8_knows_51 : decode cX8_knows 51 = .ok (.iconst 1, 1) := by decide +kernel
theorem dX8_knows_52 : decode cX8_knows 52 = .ok (.goto 4, 3) := by decide +kernel
theorem dX8_knows_55 : decode cX8_knows 55 = .ok (.iconst 0, 1) := by decide +kernel
theorem dX8_knows_56 : decode cX8_knows 56 = .ok (.ireturn, 1) := by decide +kernel
theorem dX8_window_0 : decode cX8_window 0 = .ok (.bipush 32, 2) := by decide +kernel
theorem dX8_window_2 : decode cX8_window 2 = .ok (.iconst 2, 1) := by decide +kernel
theorem dX8_window_3 : decode cX8_window 3 = .ok (.aload_n 0, 1) := by decide +kernel
theorem dX8_window_4 : decode cX8_window 4 = .ok (.getfield 35, 3) := by decide +kernel
theorem dX8_window_7 : decode cX8_window 7 = .ok (.iload_n 1, 1) := by decide +kernel
theorem dX8_window_8 : decode cX8_window 8 = .ok (.invokeinterface 155 2, 5) := by decide +kernel
theorem dX8_window_13 : decode cX8_window 13 = .ok (.checkcast 55, 3) := by decide +kernel
theorem dX8_window_16 : decode cX8_window 16 = .ok (.getfield 162, 3) := by decide +kernel
theorem dX8_window_19 : decode cX8_window 19 = .ok (.ishl, 1) := by decide +kernel
theorem dX8_window_20 : decode cX8_window 20 = .ok (.invokestatic 165, 3) := by decide +kernel
theorem dX8_window_23 : decode cX8_window 23 = .ok (.ireturn, 1) := by decide +kernel
theorem dX8_draw_0 : decode cX8_draw 0 = .ok (.aload_n 0, 1) := by decide +kernel
theorem dX8_draw_1 : decode cX8_draw 1 = .ok (.aload_n 0, 1) := by decide +kernel
theorem dX8_draw_2 : decode cX8_draw 2 = .ok (.getfield 7, 3) := by decide +kernel
theorem dX8_draw_5 : decode cX8_draw 5 = .ok (.ldc 171, 2) := by decide +kernel
theorem dX8_draw_7 : decode cX8_draw 7 = .ok (.imul, 1) := by decide +kernel
theorem dX8_draw_8 : decode cX8_draw 8 = .ok (.sipush 12345, 3) := by decide +kernel
theorem dX8_draw_11 : decode cX8_draw 11 = .ok (.iadd, 1) := by decide +kernel
theorem dX8_draw_12 : decode cX8_draw 12 = .ok (.putfield 7, 3) := by decide +kernel
theorem dX8_draw_15 : decode cX8_draw 15 = .ok (.aload_n 0, 1) := by decide +kernel
theorem dX8_draw_16 : decode cX8_draw 16 = .ok (.getfield 7, 3) := by decide +kernel
theorem dX8_draw_19 : decode cX8_draw 19 = .ok (.bipush 16, 2) := by decide +kernel
theorem dX8_draw_21 : decode cX8_draw 21 = .ok (.iushr, 1) := by decide +kernel
theorem dX8_draw_22 : decode cX8_draw 22 = .ok (.iload_n 1, 1) := by decide +kernel
theorem dX8_draw_23 : decode cX8_draw 23 = .ok (.irem, 1) := by decide +kernel
theorem dX8_draw_24 : decode cX8_draw 24 = .ok (.ireturn, 1) := by decide +kernel
theorem dX8_isDue_0 : decode cX8_isDue 0 = .ok (.iload_n 2, 1) := by decide +kernel
theorem dX8_isDue_1 : decode cX8_isDue 1 = .ok (.aload_n 0, 1) := by decide +kernel
theorem dX8_isDue_2 : decode cX8_isDue 2 = .ok (.getfield 35, 3) := by decide +kernel
theorem dX8_isDue_5 : decode cX8_isDue 5 = .ok (.iload_n 1, 1) := by decide +kernel
theorem dX8_isDue_6 : decode cX8_isDue 6 = .ok (.invokeinterface 155 2, 5) := by decide +kernel
theorem dX8_isDue_11 : decode cX8_isDue 11 = .ok (.checkcast 55, 3) := by decide +kernel
theorem dX8_isDue_14 : decode cX8_isDue 14 = .ok (.getfield 61, 3) := by decide +kernel
theorem dX8_isDue_17 : decode cX8_isDue 17 = .ok (.if_icmp .lt 45, 3) := by decide +kernel
theorem dX8_isDue_20 : decode cX8_isDue 20 = .ok (.iload_n 2, 1) := by decide +kernel
theorem dX8_isDue_21 : decode cX8_isDue 21 = .ok (.aload_n 0, 1) := by decide +kernel
theorem dX8_isDue_22 : decode cX8_isDue 22 = .ok (.getfield 35, 3) := by decide +kernel
theorem dX8_isDue_25 : decode cX8_isDue 25 = .ok (.iload_n 1, 1) := by decide +kernel
theorem dX8_isDue_26 : decode cX8_isDue 26 = .ok (.invokeinterface 155 2, 5) := by decide +kernel
theorem dX8_isDue_31 : decode cX8_isDue 31 = .ok (.checkcast 55, 3) := by decide +kernel
theorem dX8_isDue_34 : decode cX8_isDue 34 = .ok (.getfield 61, 3) := by decide +kernel
theorem dX8_isDue_37 : decode cX8_isDue 37 = .ok (.isub, 1) := by decide +kernel
theorem dX8_isDue_38 : decode cX8_isDue 38 = .ok (.aload_n 0, 1) := by decide +kernel
theorem dX8_isDue_39 : decode cX8_isDue 39 = .ok (.getfield 35, 3) := by decide +kernel
theorem dX8_isDue_42 : decode cX8_isDue 42 = .ok (.iload_n 1, 1) := by decide +kernel
theorem dX8_isDue_43 : decode cX8_isDue 43 = .ok (.invokeinterface 155 2, 5) := by decide +kernel
theorem dX8_isDue_48 : decode cX8_isDue 48 = .ok (.checkcast 55, 3) := by decide +kernel
theorem dX8_isDue_51 : decode cX8_isDue 51 = .ok (.getfield 58, 3) := by decide +kernel
theorem dX8_isDue_54 : decode cX8_isDue 54 = .ok (.irem, 1) := by decide +kernel
theorem dX8_isDue_55 : decode cX8_isDue 55 = .ok (.ifCond .ne 7, 3) := by decide +kernel
theorem dX8_isDue_58 : decode cX8_isDue 58 = .ok (.iconst 1, 1) := by decide +kernel
theorem dX8_isDue_59 : decode cX8_isDue 59 = .ok (.goto 4, 3) := by decide +kernel
theorem dX8_isDue_62 : decode cX8_isDue 62 = .ok (.iconst 0, 1) := by decide +kernel
theorem dX8_isDue_63 : decode cX8_isDue 63 = .ok (.ireturn, 1) := by decide +kernel
theorem dX8_knowsAll_0 : decode cX8_knowsAll 0 = .ok (.iconst 0, 1) := by decide +kernel
theorem dX8_knowsAll_1 : decode cX8_knowsAll 1 = .ok (.istore_n 2, 1) := by decide +kernel
theorem dX8_knowsAll_2 : decode cX8_knowsAll 2 = .ok (.iload_n 2, 1) := by decide +kernel
theorem dX8_knowsAll_3 : decode cX8_knowsAll 3 = .ok (.aload_n 0, 1) := by decide +kernel
theorem dX8_knowsAll_4 : decode cX8_knowsAll 4 = .ok (.getfield 35, 3) := by decide +kernel
theorem dX8_knowsAll_7 : decode cX8_knowsAll 7 = .ok (.invokeinterface 172 1, 5) := by decide +kernel
theorem dX8_knowsAll_12 : decode cX8_knowsAll 12 = .ok (.if_icmp .ge 31, 3) := by decide +kernel
theorem dX8_knowsAll_15 : decode cX8_knowsAll 15 = .ok (.aload_n 0, 1) := by decide +kernel
theorem dX8_knowsAll_16 : decode cX8_knowsAll 16 = .ok (.getfield 25, 3) := by decide +kernel
theorem dX8_knowsAll_19 : decode cX8_knowsAll 19 = .ok (.iload_n 1, 1) := by decide +kernel
theorem dX8_knowsAll_20 : decode cX8_knowsAll 20 = .ok (.aaload, 1) := by decide +kernel
theorem dX8_knowsAll_21 : decode cX8_knowsAll 21 = .ok (.iload_n 2, 1) := by decide +kernel
theorem dX8_knowsAll_22 : decode cX8_knowsAll 22 = .ok (.baload, 1) := by decide +kernel
theorem dX8_knowsAll_23 : decode cX8_knowsAll 23 = .ok (.ifCond .eq 14, 3) := by decide +kernel
theorem dX8_knowsAll_26 : decode cX8_knowsAll 26 = .ok (.aload_n 0, 1) := by decide +kernel
theorem dX8_knowsAll_27 : decode cX8_knowsAll 27 = .ok (.iload_n 1, 1) := by decide +kernel
theorem dX8_knowsAll_28 : decode cX8_knowsAll 28 = .ok (.iload_n 2, 1) := by decide +kernel
theorem dX8_knowsAll_29 : decode cX8_knowsAll 29 = .ok (.invokevirtual 176, 3) := by decide +kernel
theorem dX8_knowsAll_32 : decode cX8_knowsAll 32 = .ok (.ifCond .ne 5, 3) := by decide +kernel
theorem dX8_knowsAll_35 : decode cX8_knowsAll 35 = .ok (.iconst 0, 1) := by decide +kernel
theorem dX8_knowsAll_36 : decode cX8_knowsAll 36 = .ok (.ireturn, 1) := by decide +kernel
theorem dX8_knowsAll_37 : decode cX8_knowsAll 37 = .ok (.iinc 2 1, 3) := by decide +kernel
theorem dX8_knowsAll_40 : decode cX8_knowsAll 40 = .ok (.goto (-38), 3) := by decide +kernel
theorem dX8_knowsAll_43 : decode cX8_knowsAll 43 = .ok (.iconst 1, 1) := by decide +kernel
theorem dX8_knowsAll_44 : decode cX8_knowsAll 44 = .ok (.ireturn, 1) := by decide +kernel
theorem dX8_near_0 : decode cX8_near 0 = .ok (.iconst 0, 1) := by decide +kernel
theorem dX8_near_1 : decode cX8_near 1 = .ok (.istore_n 2, 1) := by decide +kernel
theorem dX8_near_2 : decode cX8_near 2 = .ok (.iconst 0, 1) := by decide +kernel
theorem dX8_near_3 : decode cX8_near 3 = .ok (.istore_n 3, 1) := by decide +kernel
theorem dX8_near_4 : decode cX8_near 4 = .ok (.iload_n 3, 1) := by decide +kernel
theorem dX8_near_5 : decode cX8_near 5 = .ok (.aload_n 0, 1) := by decide +kernel
theorem dX8_near_6 : decode cX8_near 6 = .ok (.getfield 35, 3) := by decide +kernel
theorem dX8_near_9 : decode cX8_near 9 = .ok (.invokeinterface 172 1, 5) := by decide +kernel
theorem dX8_near_14 : decode cX8_near 14 = .ok (.if_icmp .ge 28, 3) := by decide +kernel
theorem dX8_near_17 : decode cX8_near 17 = .ok (.iload_n 2, 1) := by decide +kernel
theorem dX8_near_18 : decode cX8_near 18 = .ok (.aload_n 0, 1) := by decide +kernel
theorem dX8_near_19 : decode cX8_near 19 = .ok (.getfield 25, 3) := by decide +kernel
theorem dX8_near_22 : decode cX8_near 22 = .ok (.iload_n 1, 1) := by decide +kernel
theorem dX8_near_23 : decode cX8_near 23 = .ok (.aaload, 1) := by decide +kernel
theorem dX8_near_24 : decode cX8_near 24 = .ok (.iload_n 3, 1) := by decide +kernel
theorem dX8_near_25 : decode cX8_near 25 = .ok (.baload, 1) := by decide +kernel
theorem dX8_near_26 : decode cX8_near 26 = .ok (.ifCond .eq 7, 3) := by decide +kernel
theorem dX8_near_29 : decode cX8_near 29 = .ok (.iconst 1, 1) := by decide +kernel
theorem dX8_near_30 : decode cX8_near 30 = .ok (.goto 4, 3) := by decide +kernel
theorem dX8_near_33 : decode cX8_near 33 = .ok (.iconst 0, 1) := by decide +kernel
theorem dX8_near_34 : decode cX8_near 34 = .ok (.iadd, 1) := by decide +kernel
theorem dX8_near_35 : decode cX8_near 35 = .ok (.istore_n 2, 1) := by decide +kernel
theorem dX8_near_36 : decode cX8_near 36 = .ok (.iinc 3 1, 3) := by decide +kernel
theorem dX8_near_39 : decode cX8_near 39 = .ok (.goto (-35), 3) := by decide +kernel
theorem dX8_near_42 : decode cX8_near 42 = .ok (.iload_n 2, 1) := by decide +kernel
theorem dX8_near_43 : decode cX8_near 43 = .ok (.ireturn, 1) := by decide +kernel
theorem dX8_waits_0 : decode cX8_waits 0 = .ok (.aload_n 0, 1) := by decide +kernel
theorem dX8_waits_1 : decode cX8_waits 1 = .ok (.getfield 35, 3) := by decide +kernel
theorem dX8_waits_4 : decode cX8_waits 4 = .ok (.iload_n 1, 1) := by decide +kernel
theorem dX8_waits_5 : decode cX8_waits 5 = .ok (.invokeinterface 155 2, 5) := by decide +kernel
theorem dX8_waits_10 : decode cX8_waits 10 = .ok (.checkcast 55, 3) := by decide +kernel
theorem dX8_waits_13 : decode cX8_waits 13 = .ok (.iconst 2, 1) := by decide +kernel
theorem dX8_waits_14 : decode cX8_waits 14 = .ok (.putfield 180, 3) := by decide +kernel
theorem dX8_waits_17 : decode cX8_waits 17 = .ok (.aload_n 0, 1) := by decide +kernel
theorem dX8_waits_18 : decode cX8_waits 18 = .ok (.getfield 35, 3) := by decide +kernel
theorem dX8_waits_21 : decode cX8_waits 21 = .ok (.iload_n 1, 1) := by decide +kernel
theorem dX8_waits_22 : decode cX8_waits 22 = .ok (.invokeinterface 155 2, 5) := by decide +kernel
theorem dX8_waits_27 : decode cX8_waits 27 = .ok (.checkcast 55, 3) := by decide +kernel
theorem dX8_waits_30 : decode cX8_waits 30 = .ok (.iconst 1, 1) := by decide +kernel
theorem dX8_waits_31 : decode cX8_waits 31 = .ok (.aload_n 0, 1) := by decide +kernel
theorem dX8_waits_32 : decode cX8_waits 32 = .ok (.aload_n 0, 1) := by decide +kernel
theorem dX8_waits_33 : decode cX8_waits 33 = .ok (.iload_n 1, 1) := by decide +kernel
theorem dX8_waits_34 : decode cX8_waits 34 = .ok (.invokevirtual 183, 3) := by decide +kernel
theorem dX8_waits_37 : decode cX8_waits 37 = .ok (.invokevirtual 187, 3) := by decide +kernel
theorem dX8_waits_40 : decode cX8_waits 40 = .ok (.iadd, 1) := by decide +kernel
theorem dX8_waits_41 : decode cX8_waits 41 = .ok (.putfield 190, 3) := by decide +kernel
theorem dX8_waits_44 : decode cX8_waits 44 = .ok (.return_, 1) := by decide +kernel
theorem dX8_changes_0 : decode cX8_changes 0 = .ok (.aload_n 0, 1) := by decide +kernel
theorem dX8_changes_1 : decode cX8_changes 1 = .ok (.getfield 35, 3) := by decide +kernel
theorem dX8_changes_4 : decode cX8_changes 4 = .ok (.iload_n 1, 1) := by decide +kernel
theorem dX8_changes_5 : decode cX8_changes 5 = .ok (.invokeinterface 155 2, 5) := by decide +kernel
theorem dX8_changes_10 : decode cX8_changes 10 = .ok (.checkcast 55, 3) := by decide +kernel
theorem dX8_changes_13 : decode cX8_changes 13 = .ok (.astore_n 2, 1) := by decide +kernel
theorem dX8_changes_14 : decode cX8_changes 14 = .ok (.aload_n 2, 1) := by decide +kernel
theorem dX8_changes_15 : decode cX8_changes 15 = .ok (.getfield 180, 3) := by decide +kernel
theorem dX8_changes_18 : decode cX8_changes 18 = .ok (.ifCond .ne 70, 3) := by decide +kernel
theorem dX8_changes_21 : decode cX8_changes 21 = .ok (.aload_n 0, 1) := by decide +kernel
theorem dX8_changes_22 : decode cX8_changes 22 = .ok (.iload_n 1, 1) := by decide +kernel
theorem dX8_changes_23 : decode cX8_changes 23 = .ok (.aload_n 0, 1) := by decide +kernel
theorem dX8_changes_24 : decode cX8_changes 24 = .ok (.getfield 121, 3) := by decide +kernel
theorem dX8_changes_27 : decode cX8_changes 27 = .ok (.invokevirtual 193, 3) := by decide +kernel
theorem dX8_changes_30 : decode cX8_changes 30 = .ok (.ifCond .ne 4, 3) := by decide +kernel
theorem dX8_changes_33 : decode cX8_changes 33 = .ok (.return_, 1) := by decide +kernel
theorem dX8_changes_34 : decode cX8_changes 34 = .ok (.aload_n 2, 1) := by decide +kernel
theorem dX8_changes_35 : decode cX8_changes 35 = .ok (.aload_n 0, 1) := by decide +kernel
theorem dX8_changes_36 : decode cX8_changes 36 = .ok (.iload_n 1, 1) := by decide +kernel
theorem dX8_changes_37 : decode cX8_changes 37 = .ok (.invokevirtual 196, 3) := by decide +kernel
theorem dX8_changes_40 : decode cX8_changes 40 = .ok (.ifCond .le 22, 3) := by decide +kernel
theorem dX8_changes_43 : decode cX8_changes 43 = .ok (.aload_n 0, 1) := by decide +kernel
theorem dX8_changes_44 : decode cX8_changes 44 = .ok (.iload_n 1, 1) := by decide +kernel
theorem dX8_changes_45 : decode cX8_changes 45 = .ok (.invokevirtual 198, 3) := by decide +kernel
theorem dX8_changes_48 : decode cX8_changes 48 = .ok (.ifCond .eq 14, 3) := by decide +kernel
theorem dX8_changes_51 : decode cX8_changes 51 = .ok (.aload_n 2, 1) := by decide +kernel
theorem dX8_changes_52 : decode cX8_changes 52 = .ok (.getfield 202, 3) := by decide +kernel
theorem dX8_changes_55 : decode cX8_changes 55 = .ok (.ifCond .ne 7, 3) := by decide +kernel
theorem dX8_changes_58 : decode cX8_changes 58 = .ok (.iconst 1, 1) := by decide +kernel
theorem dX8_changes_59 : decode cX8_changes 59 = .ok (.goto 4, 3) := by decide +kernel
theorem dX8_changes_62 : decode cX8_changes 62 = .ok (.iconst 0, 1) := by decide +kernel
theorem dX8_changes_63 : decode cX8_changes 63 = .ok (.putfield 202, 3) := by decide +kernel
theorem dX8_changes_66 : decode cX8_changes 66 = .ok (.aload_n 2, 1) := by decide +kernel
theorem dX8_changes_67 : decode cX8_changes 67 = .ok (.getfield 202, 3) := by decide +kernel
theorem dX8_changes_70 : decode cX8_changes 70 = .ok (.ifCond .eq 4, 3) := by decide +kernel
theorem dX8_changes_73 : decode cX8_changes 73 = .ok (.return_, 1) := by decide +kernel
theorem dX8_changes_74 : decode cX8_changes 74 = .ok (.aload_n 2, 1) := by decide +kernel
theorem dX8_changes_75 : decode cX8_changes 75 = .ok (.iconst 1, 1) := by decide +kernel
theorem dX8_changes_76 : decode cX8_changes 76 = .ok (.putfield 180, 3) := by decide +kernel
theorem dX8_changes_79 : decode cX8_changes 79 = .ok (.aload_n 2, 1) := by decide +kernel
theorem dX8_changes_80 : decode cX8_changes 80 = .ok (.aload_n 2, 1) := by decide +kernel
theorem dX8_changes_81 : decode cX8_changes 81 = .ok (.getfield 80, 3) := by decide +kernel
theorem dX8_changes_84 : decode cX8_changes 84 = .ok (.putfield 190, 3) := by decide +kernel
theorem dX8_changes_87 : decode cX8_changes 87 = .ok (.return_, 1) := by decide +kernel
theorem dX8_changes_88 : decode cX8_changes 88 = .ok (.iconst 0, 1) := by decide +kernel
theorem dX8_changes_89 : decode cX8_changes 89 = .ok (.istore_n 3, 1) := by decide +kernel
theorem dX8_changes_90 : decode cX8_changes 90 = .ok (.iconst 0, 1) := by decide +kernel
theorem dX8_changes_91 : decode cX8_changes 91 = .ok (.istore 4, 2) := by decide +kernel
theorem dX8_changes_93 : decode cX8_changes 93 = .ok (.iload 4, 2) := by decide +kernel
theorem dX8_changes_95 : decode cX8_changes 95 = .ok (.aload_n 0, 1) := by decide +kernel
theorem dX8_changes_96 : decode cX8_changes 96 = .ok (.getfield 35, 3) := by decide +kernel
theorem dX8_changes_99 : decode cX8_changes 99 = .ok (.invokeinterface 172 1, 5) := by decide +kernel
theorem dX8_changes_104 : decode cX8_changes 104 = .ok (.if_icmp .ge 47, 3) := by decide +kernel
theorem dX8_changes_107 : decode cX8_changes 107 = .ok (.iload_n 3, 1) := by decide +kernel
theorem dX8_changes_108 : decode cX8_changes 108 = .ok (.aload_n 2, 1) := by decide +kernel
theorem dX8_changes_109 : decode cX8_changes 109 = .ok (.getfield 180, 3) := by decide +kernel
theorem dX8_changes_112 : decode cX8_changes 112 = .ok (.iconst 2, 1) := by decide +kernel
theorem dX8_changes_113 : decode cX8_changes 113 = .ok (.if_icmp .ne 29, 3) := by decide +kernel
theorem dX8_changes_116 : decode cX8_changes 116 = .ok (.aload_n 0, 1) := by decide +kernel
theorem dX8_changes_117 : decode cX8_changes 117 = .ok (.getfield 25, 3) := by decide +kernel
theorem dX8_changes_120 : decode cX8_changes 120 = .ok (.iload_n 1, 1) := by decide +kernel
theorem dX8_changes_121 : decode cX8_changes 121 = .ok (.aaload, 1) := by decide +kernel
theorem dX8_changes_122 : decode cX8_changes 122 = .ok (.iload 4, 2) := by decide +kernel
theorem dX8_changes_124 : decode cX8_changes 124 = .ok (.baload, 1) := by decide +kernel
theorem dX8_changes_125 : decode cX8_changes 125 = .ok (.ifCond .eq 17, 3) := by decide +kernel
theorem dX8_changes_128 : decode cX8_changes 128 = .ok (.aload_n 0, 1) := by decide +kernel
theorem dX8_changes_129 : decode cX8_changes 129 = .ok (.getfield 28, 3) := by decide +kernel
theorem dX8_changes_132 : decode cX8_changes 132 = .ok (.iload 4, 2) := by decide +kernel
theorem dX8_changes_134 : decode cX8_changes 134 = .ok (.baload, 1) := by decide +kernel
theorem dX8_changes_135 : decode cX8_changes 135 = .ok (.ifCond .eq 7, 3) := by decide +kernel
theorem dX8_changes_138 : decode cX8_changes 138 = .ok (.iconst 1, 1) := by decide +kernel
theorem dX8_changes_139 : decode cX8_changes 139 = .ok (.goto 4, 3) := by decide +kernel
theorem dX8_changes_142 : decode cX8_changes 142 = .ok (.iconst 0, 1) := by decide +kernel
theorem dX8_changes_143 : decode cX8_changes 143 = .ok (.ior, 1) := by decide +kernel
theorem dX8_changes_144 : decode cX8_changes 144 = .ok (.istore_n 3, 1) := by decide +kernel
theorem dX8_changes_145 : decode cX8_changes 145 = .ok (.iinc 4 1, 3) := by decide +kernel
theorem dX8_changes_148 : decode cX8_changes 148 = .ok (.goto (-55), 3) := by decide +kernel
theorem dX8_changes_151 : decode cX8_changes 151 = .ok (.aload_n 2, 1) := by decide +kernel
theorem dX8_changes_152 : decode cX8_changes 152 = .ok (.getfield 180, 3) := by decide +kernel
theorem dX8_changes_155 : decode cX8_changes 155 = .ok (.iconst 3, 1) := by decide +kernel
theorem dX8_changes_156 : decode cX8_changes 156 = .ok (.if_icmp .eq 21, 3) := by decide +kernel
theorem dX8_changes_159 : decode cX8_changes 159 = .ok (.iload_n 3, 1) := by decide +kernel
theorem dX8_changes_160 : decode cX8_changes 160 = .ok (.ifCond .ne 17, 3) := by decide +kernel
theorem dX8_changes_163 : decode cX8_changes 163 = .ok (.aload_n 2, 1) := by decide +kernel
theorem dX8_changes_164 : decode cX8_changes 164 = .ok (.dup, 1) := by decide +kernel
theorem dX8_changes_165 : decode cX8_changes 165 = .ok (.getfield 190, 3) := by decide +kernel
theorem dX8_changes_168 : decode cX8_changes 168 = .ok (.iconst 1, 1) := by decide +kernel
theorem dX8_changes_169 : decode cX8_changes 169 = .ok (.isub, 1) := by decide +kernel
theorem dX8_changes_170 : decode cX8_changes 170 = .ok (.dup_x1, 1) := by decide +kernel
theorem dX8_changes_171 : decode cX8_changes 171 = .ok (.putfield 190, 3) := by decide +kernel
theorem dX8_changes_174 : decode cX8_changes 174 = .ok (.ifCond .le 4, 3) := by decide +kernel
theorem dX8_changes_177 : decode cX8_changes 177 = .ok (.return_, 1) := by decide +kernel
theorem dX8_changes_178 : decode cX8_changes 178 = .ok (.aload_n 2, 1) := by decide +kernel
theorem dX8_changes_179 : decode cX8_changes 179 = .ok (.getfield 180, 3) := by decide +kernel
theorem dX8_changes_182 : decode cX8_changes 182 = .ok (.iconst 1, 1) := by decide +kernel
theorem dX8_changes_183 : decode cX8_changes 183 = .ok (.if_icmp .ne 9, 3) := by decide +kernel
theorem dX8_changes_186 : decode cX8_changes 186 = .ok (.aload_n 0, 1) := by decide +kernel
theorem dX8_changes_187 : decode cX8_changes 187 = .ok (.iload_n 1, 1) := by decide +kernel
theorem dX8_changes_188 : decode cX8_changes 188 = .ok (.invokevirtual 206, 3) := by decide +kernel
theorem dX8_changes_191 : decode cX8_changes 191 = .ok (.return_, 1) := by decide +kernel
theorem dX8_changes_192 : decode cX8_changes 192 = .ok (.aload_n 2, 1) := by decide +kernel
theorem dX8_changes_193 : decode cX8_changes 193 = .ok (.iconst 3, 1) := by decide +kernel
theorem dX8_changes_194 : decode cX8_changes 194 = .ok (.putfield 180, 3) := by decide +kernel
theorem dX8_changes_197 : decode cX8_changes 197 = .ok (.aload_n 2, 1) := by decide +kernel
theorem dX8_changes_198 : decode cX8_changes 198 = .ok (.aload_n 2, 1) := by decide +kernel
theorem dX8_changes_199 : decode cX8_changes 199 = .ok (.getfield 85, 3) := by decide +kernel
theorem dX8_changes_202 : decode cX8_changes 202 = .ok (.putfield 190, 3) := by decide +kernel
theorem dX8_changes_205 : decode cX8_changes 205 = .ok (.aload_n 2, 1) := by decide +kernel
theorem dX8_changes_206 : decode cX8_changes 206 = .ok (.bipush 8, 2) := by decide +kernel
theorem dX8_changes_208 : decode cX8_changes 208 = .ok (.newarray .int, 2) := by decide +kernel
theorem dX8_changes_210 : decode cX8_changes 210 = .ok (.putfield 210, 3) := by decide +kernel
theorem dX8_changes_213 : decode cX8_changes 213 = .ok (.return_, 1) := by decide +kernel
theorem dX8_deaf_0 : decode cX8_deaf 0 = .ok (.aload_n 0, 1) := by decide +kernel
theorem dX8_deaf_1 : decode cX8_deaf 1 = .ok (.getfield 35, 3) := by decide +kernel
theorem dX8_deaf_4 : decode cX8_deaf 4 = .ok (.iload_n 1, 1) := by decide +kernel
theorem dX8_deaf_5 : decode cX8_deaf 5 = .ok (.invokeinterface 155 2, 5) := by decide +kernel
theorem dX8_deaf_10 : decode cX8_deaf 10 = .ok (.checkcast 55, 3) := by decide +kernel
theorem dX8_deaf_13 : decode cX8_deaf 13 = .ok (.getfield 180, 3) := by decide +kernel
theorem dX8_deaf_16 : decode cX8_deaf 16 = .ok (.istore_n 3, 1) := by decide +kernel
theorem dX8_deaf_17 : decode cX8_deaf 17 = .ok (.aload_n 0, 1) := by decide +kernel
theorem dX8_deaf_18 : decode cX8_deaf 18 = .ok (.getfield 25, 3) := by decide +kernel
theorem dX8_deaf_21 : decode cX8_deaf 21 = .ok (.iload_n 1, 1) := by decide +kernel
theorem dX8_deaf_22 : decode cX8_deaf 22 = .ok (.aaload, 1) := by decide +kernel
theorem dX8_deaf_23 : decode cX8_deaf 23 = .ok (.iload_n 2, 1) := by decide +kernel
theorem dX8_deaf_24 : decode cX8_deaf 24 = .ok (.baload, 1) := by decide +kernel
theorem dX8_deaf_25 : decode cX8_deaf 25 = .ok (.ifCond .ne 5, 3) := by decide +kernel
theorem dX8_deaf_28 : decode cX8_deaf 28 = .ok (.iconst 1, 1) := by decide +kernel
theorem dX8_deaf_29 : decode cX8_deaf 29 = .ok (.ireturn, 1) := by decide +kernel
theorem dX8_deaf_30 : decode cX8_deaf 30 = .ok (.iload_n 3, 1) := by decide +kernel
theorem dX8_deaf_31 : decode cX8_deaf 31 = .ok (.ifCond .eq 8, 3) := by decide +kernel
theorem dX8_deaf_34 : decode cX8_deaf 34 = .ok (.iload_n 3, 1) := by decide +kernel
theorem dX8_deaf_35 : decode cX8_deaf 35 = .ok (.iconst 4, 1) := by decide +kernel
theorem dX8_deaf_36 : decode cX8_deaf 36 = .ok (.if_icmp .ne 5, 3) := by decide +kernel
theorem dX8_deaf_39 : decode cX8_deaf 39 = .ok (.iconst 2, 1) := by decide +kernel
theorem dX8_deaf_40 : decode cX8_deaf 40 = .ok (.ireturn, 1) := by decide +kernel
theorem dX8_deaf_41 : decode cX8_deaf 41 = .ok (.iload_n 3, 1) := by decide +kernel
theorem dX8_deaf_42 : decode cX8_deaf 42 = .ok (.iconst 3, 1) := by decide +kernel
theorem dX8_deaf_43 : decode cX8_deaf 43 = .ok (.if_icmp .ne 7, 3) := by decide +kernel
theorem dX8_deaf_46 : decode cX8_deaf 46 = .ok (.iconst 3, 1) := by decide +kernel
theorem dX8_deaf_47 : decode cX8_deaf 47 = .ok (.goto 17, 3) := by decide +kernel
theorem dX8_deaf_50 : decode cX8_deaf 50 = .ok (.aload_n 0, 1) := by decide +kernel
theorem dX8_deaf_51 : decode cX8_deaf 51 = .ok (.iload_n 1, 1) := by decide +kernel
theorem dX8_deaf_52 : decode cX8_deaf 52 = .ok (.invokevirtual 213, 3) := by decide +kernel
theorem dX8_deaf_55 : decode cX8_deaf 55 = .ok (.iconst 1, 1) := by decide +kernel
theorem dX8_deaf_56 : decode cX8_deaf 56 = .ok (.if_icmp .le 7, 3) := by decide +kernel
theorem dX8_deaf_59 : decode cX8_deaf 59 = .ok (.iconst 4, 1) := by decide +kernel
theorem dX8_deaf_60 : decode cX8_deaf 60 = .ok (.goto 4, 3) := by decide +kernel
theorem dX8_deaf_63 : decode cX8_deaf 63 = .ok (.iconst 0, 1) := by decide +kernel
theorem dX8_deaf_64 : decode cX8_deaf 64 = .ok (.ireturn, 1) := by decide +kernel
theorem dX8_sendersNear_0 : decode cX8_sendersNear 0 = .ok (.iconst 0, 1) := by decide +kernel
theorem dX8_sendersNear_1 : decode cX8_sendersNear 1 = .ok (.istore_n 2, 1) := by decide +kernel
theorem dX8_sendersNear_2 : decode cX8_sendersNear 2 = .ok (.iconst 0, 1) := by decide +kernel
theorem dX8_sendersNear_3 : decode cX8_sendersNear 3 = .ok (.istore_n 3, 1) := by decide +kernel
theorem dX8_sendersNear_4 : decode cX8_sendersNear 4 = .ok (.iload_n 3, 1) := by decide +kernel
theorem dX8_sendersNear_5 : decode cX8_sendersNear 5 = .ok (.aload_n 0, 1) := by decide +kernel
theorem dX8_sendersNear_6 : decode cX8_sendersNear 6 = .ok (.getfield 35, 3) := by decide +kernel
theorem dX8_sendersNear_9 : decode cX8_sendersNear 9 = .ok (.invokeinterface 172 1, 5) := by decide +kernel
theorem dX8_sendersNear_14 : decode cX8_sendersNear 14 = .ok (.if_icmp .ge 48, 3) := by decide +kernel
theorem dX8_sendersNear_17 : decode cX8_sendersNear 17 = .ok (.iload_n 2, 1) := by decide +kernel
theorem dX8_sendersNear_18 : decode cX8_sendersNear 18 = .ok (.aload_n 0, 1) := by decide +kernel
theorem dX8_sendersNear_19 : decode cX8_sendersNear 19 = .ok (.getfield 25, 3) := by decide +kernel
theorem dX8_sendersNear_22 : decode cX8_sendersNear 22 = .ok (.iload_n 1, 1) := by decide +kernel
theorem dX8_sendersNear_23 : decode cX8_sendersNear 23 = .ok (.aaload, 1) := by decide +kernel
theorem dX8_sendersNear_24 : decode cX8_sendersNear 24 = .ok (.iload_n 3, 1) := by decide +kernel
theorem dX8_sendersNear_25 : decode cX8_sendersNear 25 = .ok (.baload, 1) := by decide +kernel
theorem dX8_sendersNear_26 : decode cX8_sendersNear 26 = .ok (.ifCond .eq 27, 3) := by decide +kernel
theorem dX8_sendersNear_29 : decode cX8_sendersNear 29 = .ok (.aload_n 0, 1) := by decide +kernel
theorem dX8_sendersNear_30 : decode cX8_sendersNear 30 = .ok (.getfield 35, 3) := by decide +kernel
theorem dX8_sendersNear_33 : decode cX8_sendersNear 33 = .ok (.iload_n 3, 1) := by decide +kernel
theorem dX8_sendersNear_34 : decode cX8_sendersNear 34 = .ok (.invokeinterface 155 2, 5) := by decide +kernel
theorem dX8_sendersNear_39 : decode cX8_sendersNear 39 = .ok (.checkcast 55, 3) := by decide +kernel
theorem dX8_sendersNear_42 : decode cX8_sendersNear 42 = .ok (.getfield 180, 3) := by decide +kernel
theorem dX8_sendersNear_45 : decode cX8_sendersNear 45 = .ok (.iconst 3, 1) := by decide +kernel
theorem dX8_sendersNear_46 : decode cX8_sendersNear 46 = .ok (.if_icmp .ne 7, 3) := by decide +kernel
theorem dX8_sendersNear_49 : decode cX8_sendersNear 49 = .ok (.iconst 1, 1) := by decide +kernel
theorem dX8_sendersNear_50 : decode cX8_sendersNear 50 = .ok (.goto 4, 3) := by decide +kernel
theorem dX8_sendersNear_53 : decode cX8_sendersNear 53 = .ok (.iconst 0, 1) := by decide +kernel
theorem dX8_sendersNear_54 : decode cX8_sendersNear 54 = .ok (.iadd, 1) := by decide +kernel
theorem dX8_sendersNear_55 : decode cX8_sendersNear 55 = .ok (.istore_n 2, 1) := by decide +kernel
theorem dX8_sendersNear_56 : decode cX8_sendersNear 56 = .ok (.iinc 3 1, 3) := by decide +kernel
theorem dX8_sendersNear_59 : decode cX8_sendersNear 59 = .ok (.goto (-55), 3) := by decide +kernel
theorem dX8_sendersNear_62 : decode cX8_sendersNear 62 = .ok (.iload_n 2, 1) := by decide +kernel
theorem dX8_sendersNear_63 : decode cX8_sendersNear 63 = .ok (.ireturn, 1) := by decide +kernel
theorem dX8_ends_0 : decode cX8_ends 0 = .ok (.aload_n 0, 1) := by decide +kernel
theorem dX8_ends_1 : decode cX8_ends 1 = .ok (.getfield 35, 3) := by decide +kernel
theorem dX8_ends_4 : decode cX8_ends 4 = .ok (.iload_n 1, 1) := by decide +kernel
theorem dX8_ends_5 : decode cX8_ends 5 = .ok (.invokeinterface 155 2, 5) := by decide +kernel
theorem dX8_ends_10 : decode cX8_ends 10 = .ok (.checkcast 55, 3) := by decide +kernel
theorem dX8_ends_13 : decode cX8_ends 13 = .ok (.astore_n 2, 1) := by decide +kernel
theorem dX8_ends_14 : decode cX8_ends 14 = .ok (.iconst 0, 1) := by decide +kernel
theorem dX8_ends_15 : decode cX8_ends 15 = .ok (.istore_n 3, 1) := by decide +kernel
theorem dX8_ends_16 : decode cX8_ends 16 = .ok (.iconst 0, 1) := by decide +kernel
theorem dX8_ends_17 : decode cX8_ends 17 = .ok (.istore 4, 2) := by decide +kernel
theorem dX8_ends_19 : decode cX8_ends 19 = .ok (.iload 4, 2) := by decide +kernel
theorem dX8_ends_21 : decode cX8_ends 21 = .ok (.aload_n 0, 1) := by decide +kernel
theorem dX8_ends_22 : decode cX8_ends 22 = .ok (.getfield 35, 3) := by decide +kernel
theorem dX8_ends_25 : decode cX8_ends 25 = .ok (.invokeinterface 172 1, 5) := by decide +kernel
theorem dX8_ends_30 : decode cX8_ends 30 = .ok (.if_icmp .ge 77, 3) := by decide +kernel
theorem dX8_ends_33 : decode cX8_ends 33 = .ok (.aload_n 2, 1) := by decide +kernel
theorem dX8_ends_34 : decode cX8_ends 34 = .ok (.getfield 216, 3) := by decide +kernel
theorem dX8_ends_37 : decode cX8_ends 37 = .ok (.iload 4, 2) := by decide +kernel
theorem dX8_ends_39 : decode cX8_ends 39 = .ok (.iload 4, 2) := by decide +kernel
theorem dX8_ends_41 : decode cX8_ends 41 = .ok (.iload_n 1, 1) := by decide +kernel
theorem dX8_ends_42 : decode cX8_ends 42 = .ok (.if_icmp .ne 7, 3) := by decide +kernel
theorem dX8_ends_45 : decode cX8_ends 45 = .ok (.iconst 5, 1) := by decide +kernel
theorem dX8_ends_46 : decode cX8_ends 46 = .ok (.goto 10, 3) := by decide +kernel
theorem dX8_ends_49 : decode cX8_ends 49 = .ok (.aload_n 2, 1) := by decide +kernel
theorem dX8_ends_50 : decode cX8_ends 50 = .ok (.getfield 210, 3) := by decide +kernel
theorem dX8_ends_53 : decode cX8_ends 53 = .ok (.iload 4, 2) := by decide +kernel
theorem dX8_ends_55 : decode cX8_ends 55 = .ok (.iaload, 1) := by decide +kernel
theorem dX8_ends_56 : decode cX8_ends 56 = .ok (.iastore, 1) := by decide +kernel
theorem dX8_ends_57 : decode cX8_ends 57 = .ok (.iload 4, 2) := by decide +kernel
theorem dX8_ends_59 : decode cX8_ends 59 = .ok (.iload_n 1, 1) := by decide +kernel
theorem dX8_ends_60 : decode cX8_ends 60 = .ok (.if_icmp .eq 41, 3) := by decide +kernel
theorem dX8_ends_63 : decode cX8_ends 63 = .ok (.aload_n 2, 1) := by decide +kernel
theorem dX8_ends_64 : decode cX8_ends 64 = .ok (.getfield 210, 3) := by decide +kernel
theorem dX8_ends_67 : decode cX8_ends 67 = .ok (.iload 4, 2) := by decide +kernel
theorem dX8_ends_69 : decode cX8_ends 69 = .ok (.iaload, 1) := by decide +kernel
theorem dX8_ends_70 : decode cX8_ends 70 = .ok (.ifCond .eq 6, 3) := by decide +kernel
theorem dX8_ends_73 : decode cX8_ends 73 = .ok (.goto 28, 3) := by decide +kernel
theorem dX8_ends_76 : decode cX8_ends 76 = .ok (.iconst 1, 1) := by decide +kernel
theorem dX8_ends_77 : decode cX8_ends 77 = .ok (.istore_n 3, 1) := by decide +kernel
theorem dX8_ends_78 : decode cX8_ends 78 = .ok (.aload_n 0, 1) := by decide +kernel
theorem dX8_ends_79 : decode cX8_ends 79 = .ok (.getfield 35, 3) := by decide +kernel
theorem dX8_ends_82 : decode cX8_ends 82 = .ok (.iload 4, 2) := by decide +kernel
theorem dX8_ends_84 : decode cX8_ends 84 = .ok (.invokeinterface 155 2, 5) := by decide +kernel
theorem dX8_ends_89 : decode cX8_ends 89 = .ok (.checkcast 55, 3) := by decide +kernel
theorem dX8_ends_92 : decode cX8_ends 92 = .ok (.getfield 159, 3) := by decide +kernel
theorem dX8_ends_95 : decode cX8_ends 95 = .ok (.iload_n 1, 1) := by decide +kernel
theorem dX8_ends_96 : decode cX8_ends 96 = .ok (.aload_n 0, 1) := by decide +kernel
theorem dX8_ends_97 : decode cX8_ends 97 = .ok (.getfield 121, 3) := by decide +kernel
theorem dX8_ends_100 : decode cX8_ends 100 = .ok (.iastore, 1) := by decide +kernel
theorem dX8_ends_101 : decode cX8_ends 101 = .ok (.iinc 4 1, 3) := by decide +kernel
theorem dX8_ends_104 : decode cX8_ends 104 = .ok (.goto (-85), 3) := by decide +kernel
theorem dX8_ends_107 : decode cX8_ends 107 = .ok (.aload_n 2, 1) := by decide +kernel
theorem dX8_ends_108 : decode cX8_ends 108 = .ok (.iload_n 3, 1) := by decide +kernel
theorem dX8_ends_109 : decode cX8_ends 109 = .ok (.ifCond .eq 7, 3) := by decide +kernel
theorem dX8_ends_112 : decode cX8_ends 112 = .ok (.iconst 0, 1) := by decide +kernel
theorem dX8_ends_113 : decode cX8_ends 113 = .ok (.goto 9, 3) := by decide +kernel
theorem dX8_ends_116 : decode cX8_ends 116 = .ok (.aload_n 2, 1) := by decide +kernel
theorem dX8_ends_117 : decode cX8_ends 117 = .ok (.getfield 162, 3) := by decide +kernel
theorem dX8_ends_120 : decode cX8_ends 120 = .ok (.iconst 1, 1) := by decide +kernel
theorem dX8_ends_121 : decode cX8_ends 121 = .ok (.iadd, 1) := by decide +kernel
theorem dX8_ends_122 : decode cX8_ends 122 = .ok (.putfield 162, 3) := by decide +kernel
theorem dX8_ends_125 : decode cX8_ends 125 = .ok (.iload_n 3, 1) := by decide +kernel
theorem dX8_ends_126 : decode cX8_ends 126 = .ok (.ifCond .ne 20, 3) := by decide +kernel
theorem dX8_ends_129 : decode cX8_ends 129 = .ok (.aload_n 2, 1) := by decide +kernel
theorem dX8_ends_130 : decode cX8_ends 130 = .ok (.getfield 162, 3) := by decide +kernel
theorem dX8_ends_133 : decode cX8_ends 133 = .ok (.aload_n 0, 1) := by decide +kernel
theorem dX8_ends_134 : decode cX8_ends 134 = .ok (.getfield 13, 3) := by decide +kernel
theorem dX8_ends_137 : decode cX8_ends 137 = .ok (.if_icmp .ge 9, 3) := by decide +kernel
theorem dX8_ends_140 : decode cX8_ends 140 = .ok (.aload_n 0, 1) := by decide +kernel
theorem dX8_ends_141 : decode cX8_ends 141 = .ok (.iload_n 1, 1) := by decide +kernel
theorem dX8_ends_142 : decode cX8_ends 142 = .ok (.invokevirtual 206, 3) := by decide +kernel
theorem dX8_ends_145 : decode cX8_ends 145 = .ok (.return_, 1) := by decide +kernel
theorem dX8_ends_146 : decode cX8_ends 146 = .ok (.aload_n 2, 1) := by decide +kernel
theorem dX8_ends_147 : decode cX8_ends 147 = .ok (.dup, 1) := by decide +kernel
theorem dX8_ends_148 : decode cX8_ends 148 = .ok (.getfield 219, 3) := by decide +kernel
theorem dX8_ends_151 : decode cX8_ends 151 = .ok (.iload_n 3, 1) := by decide +kernel
theorem dX8_ends_152 : decode cX8_ends 152 = .ok (.ifCond .eq 7, 3) := by decide +kernel
theorem dX8_ends_155 : decode cX8_ends 155 = .ok (.iconst 1, 1) := by decide +kernel
theorem dX8_ends_156 : decode cX8_ends 156 = .ok (.goto 4, 3) := by decide +kernel
theorem dX8_ends_159 : decode cX8_ends 159 = .ok (.iconst 0, 1) := by decide +kernel
theorem dX8_ends_160 : decode cX8_ends 160 = .ok (.iadd, 1) := by decide +kernel
theorem dX8_ends_161 : decode cX8_ends 161 = .ok (.putfield 219, 3) := by decide +kernel
theorem dX8_ends_164 : decode cX8_ends 164 = .ok (.aload_n 0, 1) := by decide +kernel
theorem dX8_ends_165 : decode cX8_ends 165 = .ok (.dup, 1) := by decide +kernel
theorem dX8_ends_166 : decode cX8_ends 166 = .ok (.getfield 124, 3) := by decide +kernel
theorem dX8_ends_169 : decode cX8_ends 169 = .ok (.iload_n 3, 1) := by decide +kernel
theorem dX8_ends_170 : decode cX8_ends 170 = .ok (.ifCond .eq 7, 3) := by decide +kernel
theorem dX8_ends_173 : decode cX8_ends 173 = .ok (.iconst 1, 1) := by decide +kernel
theorem dX8_ends_174 : decode cX8_ends 174 = .ok (.goto 4, 3) := by decide +kernel
theorem dX8_ends_177 : decode cX8_ends 177 = .ok (.iconst 0, 1) := by decide +kernel
theorem dX8_ends_178 : decode cX8_ends 178 = .ok (.iadd, 1) := by decide +kernel
theorem dX8_ends_179 : decode cX8_ends 179 = .ok (.putfield 124, 3) := by decide +kernel
theorem dX8_ends_182 : decode cX8_ends 182 = .ok (.aload_n 2, 1) := by decide +kernel
theorem dX8_ends_183 : decode cX8_ends 183 = .ok (.dup, 1) := by decide +kernel
theorem dX8_ends_184 : decode cX8_ends 184 = .ok (.getfield 220, 3) := by decide +kernel
theorem dX8_ends_187 : decode cX8_ends 187 = .ok (.iload_n 3, 1) := by decide +kernel
theorem dX8_ends_188 : decode cX8_ends 188 = .ok (.ifCond .eq 7, 3) := by decide +kernel
theorem dX8_ends_191 : decode cX8_ends 191 = .ok (.iconst 0, 1) := by decide +kernel
theorem dX8_ends_192 : decode cX8_ends 192 = .ok (.goto 4, 3) := by decide +kernel
theorem dX8_ends_195 : decode cX8_ends 195 = .ok (.iconst 1, 1) := by decide +kernel
theorem dX8_ends_196 : decode cX8_ends 196 = .ok (.iadd, 1) := by decide +kernel
theorem dX8_ends_197 : decode cX8_ends 197 = .ok (.putfield 220, 3) := by decide +kernel
theorem dX8_ends_200 : decode cX8_ends 200 = .ok (.aload_n 0, 1) := by decide +kernel
theorem dX8_ends_201 : decode cX8_ends 201 = .ok (.dup, 1) := by decide +kernel
theorem dX8_ends_202 : decode cX8_ends 202 = .ok (.getfield 127, 3) := by decide +kernel
theorem dX8_ends_205 : decode cX8_ends 205 = .ok (.iload_n 3, 1) := by decide +kernel
theorem dX8_ends_206 : decode cX8_ends 206 = .ok (.ifCond .eq 7, 3) := by decide +kernel
theorem dX8_ends_209 : decode cX8_ends 209 = .ok (.iconst 0, 1) := by decide +kernel
theorem dX8_ends_210 : decode cX8_ends 210 = .ok (.goto 4, 3) := by decide +kernel
theorem dX8_ends_213 : decode cX8_ends 213 = .ok (.iconst 1, 1) := by decide +kernel
theorem dX8_ends_214 : decode cX8_ends 214 = .ok (.iadd, 1) := by decide +kernel
theorem dX8_ends_215 : decode cX8_ends 215 = .ok (.putfield 127, 3) := by decide +kernel
theorem dX8_ends_218 : decode cX8_ends 218 = .ok (.aload_n 2, 1) := by decide +kernel
theorem dX8_ends_219 : decode cX8_ends 219 = .ok (.iconst 0, 1) := by decide +kernel
theorem dX8_ends_220 : decode cX8_ends 220 = .ok (.putfield 162, 3) := by decide +kernel
theorem dX8_ends_223 : decode cX8_ends 223 = .ok (.aload_n 2, 1) := by decide +kernel
theorem dX8_ends_224 : decode cX8_ends 224 = .ok (.iconst 0, 1) := by decide +kernel
theorem dX8_ends_225 : decode cX8_ends 225 = .ok (.putfield 180, 3) := by decide +kernel
theorem dX8_ends_228 : decode cX8_ends 228 = .ok (.aload_n 2, 1) := by decide +kernel
theorem dX8_ends_229 : decode cX8_ends 229 = .ok (.iconst 0, 1) := by decide +kernel
theorem dX8_ends_230 : decode cX8_ends 230 = .ok (.putfield 190, 3) := by decide +kernel
theorem dX8_ends_233 : decode cX8_ends 233 = .ok (.return_, 1) := by decide +kernel
theorem dX8_slot_0 : decode cX8_slot 0 = .ok (.aload_n 0, 1) := by decide +kernel
theorem dX8_slot_1 : decode cX8_slot 1 = .ok (.getfield 124, 3) := by decide +kernel
theorem dX8_slot_4 : decode cX8_slot 4 = .ok (.istore_n 1, 1) := by decide +kernel
theorem dX8_slot_5 : decode cX8_slot 5 = .ok (.aload_n 0, 1) := by decide +kernel
theorem dX8_slot_6 : decode cX8_slot 6 = .ok (.dup, 1) := by decide +kernel
theorem dX8_slot_7 : decode cX8_slot 7 = .ok (.getfield 121, 3) := by decide +kernel
theorem dX8_slot_10 : decode cX8_slot 10 = .ok (.iconst 1, 1) := by decide +kernel
theorem dX8_slot_11 : decode cX8_slot 11 = .ok (.iadd, 1) := by decide +kernel
theorem dX8_slot_12 : decode cX8_slot 12 = .ok (.putfield 121, 3) := by decide +kernel
theorem dX8_slot_15 : decode cX8_slot 15 = .ok (.iconst 0, 1) := by decide +kernel
theorem dX8_slot_16 : decode cX8_slot 16 = .ok (.istore_n 2, 1) := by decide +kernel
theorem dX8_slot_17 : decode cX8_slot 17 = .ok (.iload_n 2, 1) := by decide +kernel
theorem dX8_slot_18 : decode cX8_slot 18 = .ok (.aload_n 0, 1) := by decide +kernel
theorem dX8_slot_19 : decode cX8_slot 19 = .ok (.getfield 35, 3) := by decide +kernel
theorem dX8_slot_22 : decode cX8_slot 22 = .ok (.invokeinterface 172 1, 5) := by decide +kernel
theorem dX8_slot_27 : decode cX8_slot 27 = .ok (.if_icmp .ge 34, 3) := by decide +kernel
theorem dX8_slot_30 : decode cX8_slot 30 = .ok (.aload_n 0, 1) := by decide +kernel
theorem dX8_slot_31 : decode cX8_slot 31 = .ok (.getfield 35, 3) := by decide +kernel
theorem dX8_slot_34 : decode cX8_slot 34 = .ok (.iload_n 2, 1) := by decide +kernel
theorem dX8_slot_35 : decode cX8_slot 35 = .ok (.invokeinterface 155 2, 5) := by decide +kernel
theorem dX8_slot_40 : decode cX8_slot 40 = .ok (.checkcast 55, 3) := by decide +kernel
theorem dX8_slot_43 : decode cX8_slot 43 = .ok (.getfield 180, 3) := by decide +kernel
theorem dX8_slot_46 : decode cX8_slot 46 = .ok (.iconst 4, 1) := by decide +kernel
theorem dX8_slot_47 : decode cX8_slot 47 = .ok (.if_icmp .ge 8, 3) := by decide +kernel
theorem dX8_slot_50 : decode cX8_slot 50 = .ok (.aload_n 0, 1) := by decide +kernel
theorem dX8_slot_51 : decode cX8_slot 51 = .ok (.iload_n 2, 1) := by decide +kernel
theorem dX8_slot_52 : decode cX8_slot 52 = .ok (.invokevirtual 221, 3) := by decide +kernel
theorem dX8_slot_55 : decode cX8_slot 55 = .ok (.iinc 2 1, 3) := by decide +kernel
theorem dX8_slot_58 : decode cX8_slot 58 = .ok (.goto (-41), 3) := by decide +kernel
theorem dX8_slot_61 : decode cX8_slot 61 = .ok (.aload_n 0, 1) := by decide +kernel
theorem dX8_slot_62 : decode cX8_slot 62 = .ok (.getfield 35, 3) := by decide +kernel
theorem dX8_slot_65 : decode cX8_slot 65 = .ok (.invokeinterface 138 1, 5) := by decide +kernel
theorem dX8_slot_70 : decode cX8_slot 70 = .ok (.astore_n 2, 1) := by decide +kernel
theorem dX8_slot_71 : decode cX8_slot 71 = .ok (.aload_n 2, 1) := by decide +kernel
theorem dX8_slot_72 : decode cX8_slot 72 = .ok (.invokeinterface 142 1, 5) := by decide +kernel
theorem dX8_slot_77 : decode cX8_slot 77 = .ok (.ifCond .eq 100, 3) := by decide +kernel
theorem dX8_slot_80 : decode cX8_slot 80 = .ok (.aload_n 2, 1) := by decide +kernel
theorem dX8_slot_81 : decode cX8_slot 81 = .ok (.invokeinterface 148 1, 5) := by decide +kernel
theorem dX8_slot_86 : decode cX8_slot 86 = .ok (.checkcast 55, 3) := by decide +kernel
theorem dX8_slot_89 : decode cX8_slot 89 = .ok (.astore_n 3, 1) := by decide +kernel
theorem dX8_slot_90 : decode cX8_slot 90 = .ok (.aload_n 3, 1) := by decide +kernel
theorem dX8_slot_91 : decode cX8_slot 91 = .ok (.getfield 180, 3) := by decide +kernel
theorem dX8_slot_94 : decode cX8_slot 94 = .ok (.iconst 4, 1) := by decide +kernel
theorem dX8_slot_95 : decode cX8_slot 95 = .ok (.if_icmp .ne 6, 3) := by decide +kernel
theorem dX8_slot_98 : decode cX8_slot 98 = .ok (.goto (-27), 3) := by decide +kernel
theorem dX8_slot_101 : decode cX8_slot 101 = .ok (.aload_n 3, 1) := by decide +kernel
theorem dX8_slot_102 : decode cX8_slot 102 = .ok (.getfield 90, 3) := by decide +kernel
theorem dX8_slot_105 : decode cX8_slot 105 = .ok (.aload_n 0, 1) := by decide +kernel
theorem dX8_slot_106 : decode cX8_slot 106 = .ok (.getfield 19, 3) := by decide +kernel
theorem dX8_slot_109 : decode cX8_slot 109 = .ok (.aload_n 3, 1) := by decide +kernel
theorem dX8_slot_110 : decode cX8_slot 110 = .ok (.getfield 180, 3) := by decide +kernel
theorem dX8_slot_113 : decode cX8_slot 113 = .ok (.iaload, 1) := by decide +kernel
theorem dX8_slot_114 : decode cX8_slot 114 = .ok (.invokestatic 165, 3) := by decide +kernel
theorem dX8_slot_117 : decode cX8_slot 117 = .ok (.istore 4, 2) := by decide +kernel
theorem dX8_slot_119 : decode cX8_slot 119 = .ok (.aload_n 3, 1) := by decide +kernel
theorem dX8_slot_120 : decode cX8_slot 120 = .ok (.getfield 224, 3) := by decide +kernel
theorem dX8_slot_123 : decode cX8_slot 123 = .ok (.aload_n 3, 1) := by decide +kernel
theorem dX8_slot_124 : decode cX8_slot 124 = .ok (.getfield 180, 3) := by decide +kernel
theorem dX8_slot_127 : decode cX8_slot 127 = .ok (.dup2, 1) := by decide +kernel
theorem dX8_slot_128 : decode cX8_slot 128 = .ok (.iaload, 1) := by decide +kernel
theorem dX8_slot_129 : decode cX8_slot 129 = .ok (.iconst 1, 1) := by decide +kernel
theorem dX8_slot_130 : decode cX8_slot 130 = .ok (.iadd, 1) := by decide +kernel
theorem dX8_slot_131 : decode cX8_slot 131 = .ok (.iastore, 1) := by decide +kernel
theorem dX8_slot_132 : decode cX8_slot 132 = .ok (.aload_n 3, 1) := by decide +kernel
theorem dX8_slot_133 : decode cX8_slot 133 = .ok (.dup, 1) := by decide +kernel
theorem dX8_slot_134 : decode cX8_slot 134 = .ok (.getfield 90, 3) := by decide +kernel
theorem dX8_slot_137 : decode cX8_slot 137 = .ok (.iload 4, 2) := by decide +kernel
theorem dX8_slot_139 : decode cX8_slot 139 = .ok (.isub, 1) := by decide +kernel
theorem dX8_slot_140 : decode cX8_slot 140 = .ok (.putfield 90, 3) := by decide +kernel
theorem dX8_slot_143 : decode cX8_slot 143 = .ok (.aload_n 3, 1) := by decide +kernel
theorem dX8_slot_144 : decode cX8_slot 144 = .ok (.dup, 1) := by decide +kernel
theorem dX8_slot_145 : decode cX8_slot 145 = .ok (.getfield 227, 3) := by decide +kernel
theorem dX8_slot_148 : decode cX8_slot 148 = .ok (.iload 4, 2) := by decide +kernel
theorem dX8_slot_150 : decode cX8_slot 150 = .ok (.iadd, 1) := by decide +kernel
theorem dX8_slot_151 : decode cX8_slot 151 = .ok (.putfield 227, 3) := by decide +kernel
theorem dX8_slot_154 : decode cX8_slot 154 = .ok (.aload_n 3, 1) := by decide +kernel
theorem dX8_slot_155 : decode cX8_slot 155 = .ok (.getfield 90, 3) := by decide +kernel
theorem dX8_slot_158 : decode cX8_slot 158 = .ok (.ifCond .le 6, 3) := by decide +kernel
theorem dX8_slot_161 : decode cX8_slot 161 = .ok (.goto (-90), 3) := by decide +kernel
theorem dX8_slot_164 : decode cX8_slot 164 = .ok (.aload_n 3, 1) := by decide +kernel
theorem dX8_slot_165 : decode cX8_slot 165 = .ok (.iconst 4, 1) := by decide +kernel
theorem dX8_slot_166 : decode cX8_slot 166 = .ok (.putfield 180, 3) := by decide +kernel
theorem dX8_slot_169 : decode cX8_slot 169 = .ok (.aload_n 3, 1) := by decide +kernel
theorem dX8_slot_170 : decode cX8_slot 170 = .ok (.iconst 0, 1) := by decide +kernel
theorem dX8_slot_171 : decode cX8_slot 171 = .ok (.putfield 190, 3) := by decide +kernel
theorem dX8_slot_174 : decode cX8_slot 174 = .ok (.goto (-103), 3) := by decide +kernel
theorem dX8_slot_177 : decode cX8_slot 177 = .ok (.iconst 0, 1) := by decide +kernel
theorem dX8_slot_178 : decode cX8_slot 178 = .ok (.istore_n 2, 1) := by decide +kernel
theorem dX8_slot_179 : decode cX8_slot 179 = .ok (.iload_n 2, 1) := by decide +kernel
theorem dX8_slot_180 : decode cX8_slot 180 = .ok (.aload_n 0, 1) := by decide +kernel
theorem dX8_slot_181 : decode cX8_slot 181 = .ok (.getfield 35, 3) := by decide +kernel
theorem dX8_slot_184 : decode cX8_slot 184 = .ok (.invokeinterface 172 1, 5) := by decide +kernel
theorem dX8_slot_189 : decode cX8_slot 189 = .ok (.if_icmp .ge 122, 3) := by decide +kernel
theorem dX8_slot_192 : decode cX8_slot 192 = .ok (.aload_n 0, 1) := by decide +kernel
theorem dX8_slot_193 : decode cX8_slot 193 = .ok (.getfield 35, 3) := by decide +kernel
theorem dX8_slot_196 : decode cX8_slot 196 = .ok (.iload_n 2, 1) := by decide +kernel
theorem dX8_slot_197 : decode cX8_slot 197 = .ok (.invokeinterface 155 2, 5) := by decide +kernel
theorem dX8_slot_202 : decode cX8_slot 202 = .ok (.checkcast 55, 3) := by decide +kernel
theorem dX8_slot_205 : decode cX8_slot 205 = .ok (.astore_n 3, 1) := by decide +kernel
theorem dX8_slot_206 : decode cX8_slot 206 = .ok (.aload_n 3, 1) := by decide +kernel
theorem dX8_slot_207 : decode cX8_slot 207 = .ok (.getfield 180, 3) := by decide +kernel
theorem dX8_slot_210 : decode cX8_slot 210 = .ok (.iconst 1, 1) := by decide +kernel
theorem dX8_slot_211 : decode cX8_slot 211 = .ok (.if_icmp .eq 11, 3) := by decide +kernel
theorem dX8_slot_214 : decode cX8_slot 214 = .ok (.aload_n 3, 1) := by decide +kernel
theorem dX8_slot_215 : decode cX8_slot 215 = .ok (.getfield 180, 3) := by decide +kernel
theorem dX8_slot_218 : decode cX8_slot 218 = .ok (.iconst 2, 1) := by decide +kernel
theorem dX8_slot_219 : decode cX8_slot 219 = .ok (.if_icmp .ne 22, 3) := by decide +kernel
theorem dX8_slot_222 : decode cX8_slot 222 = .ok (.aload_n 0, 1) := by decide +kernel
theorem dX8_slot_223 : decode cX8_slot 223 = .ok (.iload_n 2, 1) := by decide +kernel
theorem dX8_slot_224 : decode cX8_slot 224 = .ok (.invokevirtual 213, 3) := by decide +kernel
theorem dX8_slot_227 : decode cX8_slot 227 = .ok (.iconst 1, 1) := by decide +kernel
theorem dX8_slot_228 : decode cX8_slot 228 = .ok (.if_icmp .le 13, 3) := by decide +kernel
theorem dX8_slot_231 : decode cX8_slot 231 = .ok (.aload_n 0, 1) := by decide +kernel
theorem dX8_slot_232 : decode cX8_slot 232 = .ok (.dup, 1) := by decide +kernel
theorem dX8_slot_233 : decode cX8_slot 233 = .ok (.getfield 130, 3) := by decide +kernel
theorem dX8_slot_236 : decode cX8_slot 236 = .ok (.iconst 1, 1) := by decide +kernel
theorem dX8_slot_237 : decode cX8_slot 237 = .ok (.iadd, 1) := by decide +kernel
theorem dX8_slot_238 : decode cX8_slot 238 = .ok (.putfield 130, 3) := by decide +kernel
theorem dX8_slot_241 : decode cX8_slot 241 = .ok (.aload_n 3, 1) := by decide +kernel
theorem dX8_slot_242 : decode cX8_slot 242 = .ok (.getfield 180, 3) := by decide +kernel
theorem dX8_slot_245 : decode cX8_slot 245 = .ok (.iconst 3, 1) := by decide +kernel
theorem dX8_slot_246 : decode cX8_slot 246 = .ok (.if_icmp .eq 6, 3) := by decide +kernel
theorem dX8_slot_249 : decode cX8_slot 249 = .ok (.goto 56, 3) := by decide +kernel
theorem dX8_slot_252 : decode cX8_slot 252 = .ok (.iconst 0, 1) := by decide +kernel
theorem dX8_slot_253 : decode cX8_slot 253 = .ok (.istore 4, 2) := by decide +kernel
theorem dX8_slot_255 : decode cX8_slot 255 = .ok (.iload 4, 2) := by decide +kernel
theorem dX8_slot_257 : decode cX8_slot 257 = .ok (.aload_n 0, 1) := by decide +kernel
theorem dX8_slot_258 : decode cX8_slot 258 = .ok (.getfield 35, 3) := by decide +kernel
theorem dX8_slot_261 : decode cX8_slot 261 = .ok (.invokeinterface 172 1, 5) := by decide +kernel
theorem dX8_slot_266 : decode cX8_slot 266 = .ok (.if_icmp .ge 39, 3) := by decide +kernel
theorem dX8_slot_269 : decode cX8_slot 269 = .ok (.iload 4, 2) := by decide +kernel
theorem dX8_slot_271 : decode cX8_slot 271 = .ok (.iload_n 2, 1) := by decide +kernel
theorem dX8_slot_272 : decode cX8_slot 272 = .ok (.if_icmp .eq 27, 3) := by decide +kernel
theorem dX8_slot_275 : decode cX8_slot 275 = .ok (.aload_n 3, 1) := by decide +kernel
theorem dX8_slot_276 : decode cX8_slot 276 = .ok (.getfield 210, 3) := by decide +kernel
theorem dX8_slot_279 : decode cX8_slot 279 = .ok (.iload 4, 2) := by decide +kernel
theorem dX8_slot_281 : decode cX8_slot 281 = .ok (.iaload, 1) := by decide +kernel
theorem dX8_slot_282 : decode cX8_slot 282 = .ok (.ifCond .ne 17, 3) := by decide +kernel
theorem dX8_slot_285 : decode cX8_slot 285 = .ok (.aload_n 3, 1) := by decide +kernel
theorem dX8_slot_286 : decode cX8_slot 286 = .ok (.getfield 210, 3) := by decide +kernel
theorem dX8_slot_289 : decode cX8_slot 289 = .ok (.iload 4, 2) := by decide +kernel
theorem dX8_slot_291 : decode cX8_slot 291 = .ok (.aload_n 0, 1) := by decide +kernel
theorem dX8_slot_292 : decode cX8_slot 292 = .ok (.iload 4, 2) := by decide +kernel
theorem dX8_slot_294 : decode cX8_slot 294 = .ok (.iload_n 2, 1) := by decide +kernel
theorem dX8_slot_295 : decode cX8_slot 295 = .ok (.invokevirtual 230, 3) := by decide +kernel
theorem dX8_slot_298 : decode cX8_slot 298 = .ok (.iastore, 1) := by decide +kernel
theorem dX8_slot_299 : decode cX8_slot 299 = .ok (.iinc 4 1, 3) := by decide +kernel
theorem dX8_slot_302 : decode cX8_slot 302 = .ok (.goto (-47), 3) := by decide +kernel
theorem dX8_slot_305 : decode cX8_slot 305 = .ok (.iinc 2 1, 3) := by decide +kernel
theorem dX8_slot_308 : decode cX8_slot 308 = .ok (.goto (-129), 3) := by decide +kernel
theorem dX8_slot_311 : decode cX8_slot 311 = .ok (.iconst 0, 1) := by decide +kernel
theorem dX8_slot_312 : decode cX8_slot 312 = .ok (.istore_n 2, 1) := by decide +kernel
theorem dX8_slot_313 : decode cX8_slot 313 = .ok (.iload_n 2, 1) := by decide +kernel
theorem dX8_slot_314 : decode cX8_slot 314 = .ok (.aload_n 0, 1) := by decide +kernel
theorem dX8_slot_315 : decode cX8_slot 315 = .ok (.getfield 35, 3) := by decide +kernel
theorem dX8_slot_318 : decode cX8_slot 318 = .ok (.invokeinterface 172 1, 5) := by decide +kernel
theorem dX8_slot_323 : decode cX8_slot 323 = .ok (.if_icmp .ge 40, 3) := by decide +kernel
theorem dX8_slot_326 : decode cX8_slot 326 = .ok (.aload_n 0, 1) := by decide +kernel
theorem dX8_slot_327 : decode cX8_slot 327 = .ok (.getfield 28, 3) := by decide +kernel
theorem dX8_slot_330 : decode cX8_slot 330 = .ok (.iload_n 2, 1) := by decide +kernel
theorem dX8_slot_331 : decode cX8_slot 331 = .ok (.aload_n 0, 1) := by decide +kernel
theorem dX8_slot_332 : decode cX8_slot 332 = .ok (.getfield 35, 3) := by decide +kernel
theorem dX8_slot_335 : decode cX8_slot 335 = .ok (.iload_n 2, 1) := by decide +kernel
theorem dX8_slot_336 : decode cX8_slot 336 = .ok (.invokeinterface 155 2, 5) := by decide +kernel
theorem dX8_slot_341 : decode cX8_slot 341 = .ok (.checkcast 55, 3) := by decide +kernel
theorem dX8_slot_344 : decode cX8_slot 344 = .ok (.getfield 180, 3) := by decide +kernel
theorem dX8_slot_347 : decode cX8_slot 347 = .ok (.iconst 3, 1) := by decide +kernel
theorem dX8_slot_348 : decode cX8_slot 348 = .ok (.if_icmp .ne 7, 3) := by decide +kernel
theorem dX8_slot_351 : decode cX8_slot 351 = .ok (.iconst 1, 1) := by decide +kernel
theorem dX8_slot_352 : decode cX8_slot 352 = .ok (.goto 4, 3) := by decide +kernel
theorem dX8_slot_355 : decode cX8_slot 355 = .ok (.iconst 0, 1) := by decide +kernel
theorem dX8_slot_356 : decode cX8_slot 356 = .ok (.bastore, 1) := by decide +kernel
theorem dX8_slot_357 : decode cX8_slot 357 = .ok (.iinc 2 1, 3) := by decide +kernel
theorem dX8_slot_360 : decode cX8_slot 360 = .ok (.goto (-47), 3) := by decide +kernel
theorem dX8_slot_363 : decode cX8_slot 363 = .ok (.iconst 0, 1) := by decide +kernel
theorem dX8_slot_364 : decode cX8_slot 364 = .ok (.istore_n 2, 1) := by decide +kernel
theorem dX8_slot_365 : decode cX8_slot 365 = .ok (.iload_n 2, 1) := by decide +kernel
theorem dX8_slot_366 : decode cX8_slot 366 = .ok (.aload_n 0, 1) := by decide +kernel
theorem dX8_slot_367 : decode cX8_slot 367 = .ok (.getfield 35, 3) := by decide +kernel
theorem dX8_slot_370 : decode cX8_slot 370 = .ok (.invokeinterface 172 1, 5) := by decide +kernel
theorem dX8_slot_375 : decode cX8_slot 375 = .ok (.if_icmp .ge 49, 3) := by decide +kernel
theorem dX8_slot_378 : decode cX8_slot 378 = .ok (.aload_n 0, 1) := by decide +kernel
theorem dX8_slot_379 : decode cX8_slot 379 = .ok (.getfield 28, 3) := by decide +kernel
theorem dX8_slot_382 : decode cX8_slot 382 = .ok (.iload_n 2, 1) := by decide +kernel
theorem dX8_slot_383 : decode cX8_slot 383 = .ok (.baload, 1) := by decide +kernel
theorem dX8_slot_384 : decode cX8_slot 384 = .ok (.ifCond .eq 34, 3) := by decide +kernel
theorem dX8_slot_387 : decode cX8_slot 387 = .ok (.aload_n 0, 1) := by decide +kernel
theorem dX8_slot_388 : decode cX8_slot 388 = .ok (.getfield 35, 3) := by decide +kernel
theorem dX8_slot_391 : decode cX8_slot 391 = .ok (.iload_n 2, 1) := by decide +kernel
theorem dX8_slot_392 : decode cX8_slot 392 = .ok (.invokeinterface 155 2, 5) := by decide +kernel
theorem dX8_slot_397 : decode cX8_slot 397 = .ok (.checkcast 55, 3) := by decide +kernel
theorem dX8_slot_400 : decode cX8_slot 400 = .ok (.dup, 1) := by decide +kernel
theorem dX8_slot_401 : decode cX8_slot 401 = .ok (.getfield 190, 3) := by decide +kernel
theorem dX8_slot_404 : decode cX8_slot 404 = .ok (.iconst 1, 1) := by decide +kernel
theorem dX8_slot_405 : decode cX8_slot 405 = .ok (.isub, 1) := by decide +kernel
theorem dX8_slot_406 : decode cX8_slot 406 = .ok (.dup_x1, 1) := by decide +kernel
theorem dX8_slot_407 : decode cX8_slot 407 = .ok (.putfield 190, 3) := by decide +kernel
theorem dX8_slot_410 : decode cX8_slot 410 = .ok (.ifCond .ne 8, 3) := by decide +kernel
theorem dX8_slot_413 : decode cX8_slot 413 = .ok (.aload_n 0, 1) := by decide +kernel
theorem dX8_slot_414 : decode cX8_slot 414 = .ok (.iload_n 2, 1) := by decide +kernel
theorem dX8_slot_415 : decode cX8_slot 415 = .ok (.invokevirtual 233, 3) := by decide +kernel
theorem dX8_slot_418 : decode cX8_slot 418 = .ok (.iinc 2 1, 3) := by decide +kernel
theorem dX8_slot_421 : decode cX8_slot 421 = .ok (.goto (-56), 3) := by decide +kernel
theorem dX8_slot_424 : decode cX8_slot 424 = .ok (.aload_n 0, 1) := by decide +kernel
theorem dX8_slot_425 : decode cX8_slot 425 = .ok (.getfield 124, 3) := by decide +kernel
theorem dX8_slot_428 : decode cX8_slot 428 = .ok (.iload_n 1, 1) := by decide +kernel
theorem dX8_slot_429 : decode cX8_slot 429 = .ok (.isub, 1) := by decide +kernel
theorem dX8_slot_430 : decode cX8_slot 430 = .ok (.ireturn, 1) := by decide +kernel
theorem dX8_run_0 : decode cX8_run 0 = .ok (.iconst 0, 1) := by decide +kernel
theorem dX8_run_1 : decode cX8_run 1 = .ok (.istore_n 2, 1) := by decide +kernel
theorem dX8_run_2 : decode cX8_run 2 = .ok (.iconst 0, 1) := by decide +kernel
theorem dX8_run_3 : decode cX8_run 3 = .ok (.istore_n 3, 1) := by decide +kernel
theorem dX8_run_4 : decode cX8_run 4 = .ok (.iload_n 3, 1) := by decide +kernel
theorem dX8_run_5 : decode cX8_run 5 = .ok (.iload_n 1, 1) := by decide +kernel
theorem dX8_run_6 : decode cX8_run 6 = .ok (.if_icmp .ge 16, 3) := by decide +kernel
theorem dX8_run_9 : decode cX8_run 9 = .ok (.iload_n 2, 1) := by decide +kernel
theorem dX8_run_10 : decode cX8_run 10 = .ok (.aload_n 0, 1) := by decide +kernel
theorem dX8_run_11 : decode cX8_run 11 = .ok (.invokevirtual 236, 3) := by decide +kernel
theorem dX8_run_14 : decode cX8_run 14 = .ok (.iadd, 1) := by decide +kernel
theorem dX8_run_15 : decode cX8_run 15 = .ok (.istore_n 2, 1) := by decide +kernel
theorem dX8_run_16 : decode cX8_run 16 = .ok (.iinc 3 1, 3) := by decide +kernel
theorem dX8_run_19 : decode cX8_run 19 = .ok (.goto (-15), 3) := by decide +kernel
theorem dX8_run_22 : decode cX8_run 22 = .ok (.iload_n 2, 1) := by decide +kernel
theorem dX8_run_23 : decode cX8_run 23 = .ok (.ireturn, 1) := by decide +kernel
theorem dX8_due_0 : decode cX8_due 0 = .ok (.iconst 1, 1) := by decide +kernel
theorem dX8_due_1 : decode cX8_due 1 = .ok (.istore_n 2, 1) := by decide +kernel
theorem dX8_due_2 : decode cX8_due 2 = .ok (.aload_n 0, 1) := by decide +kernel
theorem dX8_due_3 : decode cX8_due 3 = .ok (.iload_n 1, 1) := by decide +kernel
theorem dX8_due_4 : decode cX8_due 4 = .ok (.aload_n 0, 1) := by decide +kernel
theorem dX8_due_5 : decode cX8_due 5 = .ok (.getfield 121, 3) := by decide +kernel
theorem dX8_due_8 : decode cX8_due 8 = .ok (.iload_n 2, 1) := by decide +kernel
theorem dX8_due_9 : decode cX8_due 9 = .ok (.iadd, 1) := by decide +kernel
theorem dX8_due_10 : decode cX8_due 10 = .ok (.invokevirtual 193, 3) := by decide +kernel
theorem dX8_due_13 : decode cX8_due 13 = .ok (.ifCond .ne 9, 3) := by decide +kernel
theorem dX8_due_16 : decode cX8_due 16 = .ok (.iinc 2 1, 3) := by decide +kernel
theorem dX8_due_19 : decode cX8_due 19 = .ok (.goto (-17), 3) := by decide +kernel
theorem dX8_due_22 : decode cX8_due 22 = .ok (.iload_n 2, 1) := by decide +kernel
theorem dX8_due_23 : decode cX8_due 23 = .ok (.ireturn, 1) := by decide +kernel
theorem dJ6_bitCount_0f7a4_0 : decode cJ6_bitCount_0f7a4 0 = .ok (.iload_n 0, 1) := by decide +kernel
theorem dJ6_bitCount_0f7a4_1 : decode cJ6_bitCount_0f7a4 1 = .ok (.iload_n 0, 1) := by decide +kernel
theorem dJ6_bitCount_0f7a4_2 : decode cJ6_bitCount_0f7a4 2 = .ok (.iconst 1, 1) := by decide +kernel
theorem dJ6_bitCount_0f7a4_3 : decode cJ6_bitCount_0f7a4 3 = .ok (.iushr, 1) := by decide +kernel
theorem dJ6_bitCount_0f7a4_4 : decode cJ6_bitCount_0f7a4 4 = .ok (.ldc_w 265, 3) := by decide +kernel
theorem dJ6_bitCount_0f7a4_7 : decode cJ6_bitCount_0f7a4 7 = .ok (.iand, 1) := by decide +kernel
theorem dJ6_bitCount_0f7a4_8 : decode cJ6_bitCount_0f7a4 8 = .ok (.isub, 1) := by decide +kernel
theorem dJ6_bitCount_0f7a4_9 : decode cJ6_bitCount_0f7a4 9 = .ok (.istore_n 0, 1) := by decide +kernel
theorem dJ6_bitCount_0f7a4_10 : decode cJ6_bitCount_0f7a4 10 = .ok (.iload_n 0, 1) := by decide +kernel
theorem dJ6_bitCount_0f7a4_11 : decode cJ6_bitCount_0f7a4 11 = .ok (.ldc_w 266, 3) := by decide +kernel
theorem dJ6_bitCount_0f7a4_14 : decode cJ6_bitCount_0f7a4 14 = .ok (.iand, 1) := by decide +kernel
theorem dJ6_bitCount_0f7a4_15 : decode cJ6_bitCount_0f7a4 15 = .ok (.iload_n 0, 1) := by decide +kernel
theorem dJ6_bitCount_0f7a4_16 : decode cJ6_bitCount_0f7a4 16 = .ok (.iconst 2, 1) := by decide +kernel
theorem dJ6_bitCount_0f7a4_17 : decode cJ6_bitCount_0f7a4 17 = .ok (.iushr, 1) := by decide +kernel
theorem dJ6_bitCount_0f7a4_18 : decode cJ6_bitCount_0f7a4 18 = .ok (.ldc_w 266, 3) := by decide +kernel
theorem dJ6_bitCount_0f7a4_21 : decode cJ6_bitCount_0f7a4 21 = .ok (.iand, 1) := by decide +kernel
theorem dJ6_bitCount_0f7a4_22 : decode cJ6_bitCount_0f7a4 22 = .ok (.iadd, 1) := by decide +kernel
theorem dJ6_bitCount_0f7a4_23 : decode cJ6_bitCount_0f7a4 23 = .ok (.istore_n 0, 1) := by decide +kernel
theorem dJ6_bitCount_0f7a4_24 : decode cJ6_bitCount_0f7a4 24 = .ok (.iload_n 0, 1) := by decide +kernel
theorem dJ6_bitCount_0f7a4_25 : decode cJ6_bitCount_0f7a4 25 = .ok (.iload_n 0, 1) := by decide +kernel
theorem dJ6_bitCount_0f7a4_26 : decode cJ6_bitCount_0f7a4 26 = .ok (.iconst 4, 1) := by decide +kernel
theorem dJ6_bitCount_0f7a4_27 : decode cJ6_bitCount_0f7a4 27 = .ok (.iushr, 1) := by decide +kernel
theorem dJ6_bitCount_0f7a4_28 : decode cJ6_bitCount_0f7a4 28 = .ok (.iadd, 1) := by decide +kernel
theorem dJ6_bitCount_0f7a4_29 : decode cJ6_bitCount_0f7a4 29 = .ok (.ldc_w 267, 3) := by decide +kernel
theorem dJ6_bitCount_0f7a4_32 : decode cJ6_bitCount_0f7a4 32 = .ok (.iand, 1) := by decide +kernel
theorem dJ6_bitCount_0f7a4_33 : decode cJ6_bitCount_0f7a4 33 = .ok (.istore_n 0, 1) := by decide +kernel
theorem dJ6_bitCount_0f7a4_34 : decode cJ6_bitCount_0f7a4 34 = .ok (.iload_n 0, 1) := by decide +kernel
theorem dJ6_bitCount_0f7a4_35 : decode cJ6_bitCount_0f7a4 35 = .ok (.iload_n 0, 1) := by decide +kernel
theorem dJ6_bitCount_0f7a4_36 : decode cJ6_bitCount_0f7a4 36 = .ok (.bipush 8, 2) := by decide +kernel
theorem dJ6_bitCount_0f7a4_38 : decode cJ6_bitCount_0f7a4 38 = .ok (.iushr, 1) := by decide +kernel
theorem dJ6_bitCount_0f7a4_39 : decode cJ6_bitCount_0f7a4 39 = .ok (.iadd, 1) := by decide +kernel
theorem dJ6_bitCount_0f7a4_40 : decode cJ6_bitCount_0f7a4 40 = .ok (.istore_n 0, 1) := by decide +kernel
theorem dJ6_bitCount_0f7a4_41 : decode cJ6_bitCount_0f7a4 41 = .ok (.iload_n 0, 1) := by decide +kernel
theorem dJ6_bitCount_0f7a4_42 : decode cJ6_bitCount_0f7a4 42 = .ok (.iload_n 0, 1) := by decide +kernel
theorem dJ6_bitCount_0f7a4_43 : decode cJ6_bitCount_0f7a4 43 = .ok (.bipush 16, 2) := by decide +kernel
theorem dJ6_bitCount_0f7a4_45 : decode cJ6_bitCount_0f7a4 45 = .ok (.iushr, 1) := by decide +kernel
theorem dJ6_bitCount_0f7a4_46 : decode cJ6_bitCount_0f7a4 46 = .ok (.iadd, 1) := by decide +kernel
theorem dJ6_bitCount_0f7a4_47 : decode cJ6_bitCount_0f7a4 47 = .ok (.istore_n 0, 1) := by decide +kernel
theorem dJ6_bitCount_0f7a4_48 : decode cJ6_bitCount_0f7a4 48 = .ok (.iload_n 0, 1) := by decide +kernel
theorem dJ6_bitCount_0f7a4_49 : decode cJ6_bitCount_0f7a4 49 = .ok (.bipush 63, 2) := by decide +kernel
theorem dJ6_bitCount_0f7a4_51 : decode cJ6_bitCount_0f7a4 51 = .ok (.iand, 1) := by decide +kernel
theorem dJ6_bitCount_0f7a4_52 : decode cJ6_bitCount_0f7a4 52 = .ok (.ireturn, 1) := by decide +kernel
theorem dL_cell_0 : decode cL_cell 0 = .ok (.iload_n 1, 1) := by decide +kernel
theorem dL_cell_1 : decode cL_cell 1 = .ok (.aload_n 0, 1) := by decide +kernel
theorem dL_cell_2 : decode cL_cell 2 = .ok (.arraylength, 1) := by decide +kernel
theorem dL_cell_3 : decode cL_cell 3 = .ok (.if_icmp .ge 9, 3) := by decide +kernel
theorem dL_cell_6 : decode cL_cell 6 = .ok (.aload_n 0, 1) := by decide +kernel
theorem dL_cell_7 : decode cL_cell 7 = .ok (.iload_n 1, 1) := by decide +kernel
theorem dL_cell_8 : decode cL_cell 8 = .ok (.iaload, 1) := by decide +kernel
theorem dL_cell_9 : decode cL_cell 9 = .ok (.goto 10, 3) := by decide +kernel
theorem dL_cell_12 : decode cL_cell 12 = .ok (.ldc 7, 2) := by decide +kernel
theorem dL_cell_14 : decode cL_cell 14 = .ok (.iload_n 1, 1) := by decide +kernel
theorem dL_cell_15 : decode cL_cell 15 = .ok (.imul, 1) := by decide +kernel
theorem dL_cell_16 : decode cL_cell 16 = .ok (.ldc 8, 2) := by decide +kernel
theorem dL_cell_18 : decode cL_cell 18 = .ok (.iadd, 1) := by decide +kernel
theorem dL_cell_19 : decode cL_cell 19 = .ok (.ireturn, 1) := by decide +kernel
theorem dL_pick_0 : decode cL_pick 0 = .ok (.aload_n 0, 1) := by decide +kernel
theorem dL_pick_1 : decode cL_pick 1 = .ok (.iload_n 1, 1) := by decide +kernel
theorem dL_pick_2 : decode cL_pick 2 = .ok (.invokestatic 9, 3) := by decide +kernel
theorem dL_pick_5 : decode cL_pick 5 = .ok (.ldc 15, 2) := by decide +kernel
theorem dL_pick_7 : decode cL_pick 7 = .ok (.iand, 1) := by decide +kernel
theorem dL_pick_8 : decode cL_pick 8 = .ok (.iload_n 2, 1) := by decide +kernel
theorem dL_pick_9 : decode cL_pick 9 = .ok (.irem, 1) := by decide +kernel
theorem dL_pick_10 : decode cL_pick 10 = .ok (.ireturn, 1) := by decide +kernel
theorem dL_feeds_0 : decode cL_feeds 0 = .ok (.iconst 0, 1) := by decide +kernel
theorem dL_feeds_1 : decode cL_feeds 1 = .ok (.istore_n 2, 1) := by decide +kernel
theorem dL_feeds_2 : decode cL_feeds 2 = .ok (.iconst 0, 1) := by decide +kernel
theorem dL_feeds_3 : decode cL_feeds 3 = .ok (.istore_n 3, 1) := by decide +kernel
theorem dL_feeds_4 : decode cL_feeds 4 = .ok (.iload_n 3, 1) := by decide +kernel
theorem dL_feeds_5 : decode cL_feeds 5 = .ok (.aload_n 1, 1) := by decide +kernel
theorem dL_feeds_6 : decode cL_feeds 6 = .ok (.invokevirtual 16, 3) := by decide +kernel
theorem dL_feeds_9 : decode cL_feeds 9 = .ok (.if_icmp .ge 97, 3) := by decide +kernel
theorem dL_feeds_12 : decode cL_feeds 12 = .ok (.iconst 5, 1) := by decide +kernel
theorem dL_feeds_13 : decode cL_feeds 13 = .ok (.newarray .int, 2) := by decide +kernel
theorem dL_feeds_15 : decode cL_feeds 15 = .ok (.astore 4, 2) := by decide +kernel
theorem dL_feeds_17 : decode cL_feeds 17 = .ok (.iconst 0, 1) := by decide +kernel
theorem dL_feeds_18 : decode cL_feeds 18 = .ok (.istore 5, 2) := by decide +kernel
theorem dL_feeds_20 : decode cL_feeds 20 = .ok (.iload 5, 2) := by decide +kernel
theorem dL_feeds_22 : decode cL_feeds 22 = .ok (.bipush 20, 2) := by decide +kernel
theorem dL_feeds_24 : decode cL_feeds 24 = .ok (.if_icmp .ge 51, 3) := by decide +kernel
theorem dL_feeds_27 : decode cL_feeds 27 = .ok (.aload 4, 2) := by decide +kernel
theorem dL_feeds_29 : decode cL_feeds 29 = .ok (.iload 5, 2) := by decide +kernel
theorem dL_feeds_31 : decode cL_feeds 31 = .ok (.iconst 4, 1) := by decide +kernel
theorem dL_feeds_32 : decode cL_feeds 32 = .ok (.idiv, 1) := by decide +kernel
theorem dL_feeds_33 : decode cL_feeds 33 = .ok (.aload 4, 2) := by decide +kernel
theorem dL_feeds_35 : decode cL_feeds 35 = .ok (.iload 5, 2) := by decide +kernel
theorem dL_feeds_37 : decode cL_feeds 37 = .ok (.iconst 4, 1) := by decide +kernel
theorem dL_feeds_38 : decode cL_feeds 38 = .ok (.idiv, 1) := by decide +kernel
theorem dL_feeds_39 : decode cL_feeds 39 = .ok (.iaload, 1) := by decide +kernel
theorem dL_feeds_40 : decode cL_feeds 40 = .ok (.bipush 8, 2) := by decide +kernel
theorem dL_feeds_42 : decode cL_feeds 42 = .ok (.ishl, 1) := by decide +kernel
theorem dL_feeds_43 : decode cL_feeds 43 = .ok (.iload_n 3, 1) := by decide +kernel
theorem dL_feeds_44 : decode cL_feeds 44 = .ok (.iload 5, 2) := by decide +kernel
theorem dL_feeds_46 : decode cL_feeds 46 = .ok (.iadd, 1) := by decide +kernel
theorem dL_feeds_47 : decode cL_feeds 47 = .ok (.aload_n 1, 1) := by decide +kernel
theorem dL_feeds_48 : decode cL_feeds 48 = .ok (.invokevirtual 16, 3) := by decide +kernel
theorem dL_feeds_51 : decode cL_feeds 51 = .ok (.if_icmp .ge 14, 3) := by decide +kernel
theorem dL_feeds_54 : decode cL_feeds 54 = .ok (.aload_n 1, 1) := by decide +kernel
theorem dL_feeds_55 : decode cL_feeds 55 = .ok (.iload_n 3, 1) := by decide +kernel
theorem dL_feeds_56 : decode cL_feeds 56 = .ok (.iload 5, 2) := by decide +kernel
theorem dL_feeds_58 : decode cL_feeds 58 = .ok (.iadd, 1) := by decide +kernel
theorem dL_feeds_59 : decode cL_feeds 59 = .ok (.invokevirtual 22, 3) := by decide +kernel
theorem dL_feeds_62 : decode cL_feeds 62 = .ok (.goto 5, 3) := by decide +kernel
theorem dL_feeds_65 : decode cL_feeds 65 = .ok (.bipush 32, 2) := by decide +kernel
theorem dL_feeds_67 : decode cL_feeds 67 = .ok (.ior, 1) := by decide +kernel
theorem dL_feeds_68 : decode cL_feeds 68 = .ok (.iastore, 1) := by decide +kernel
theorem dL_feeds_69 : decode cL_feeds 69 = .ok (.iinc 5 1, 3) := by decide +kernel
theorem dL_feeds_72 : decode cL_feeds 72 = .ok (.goto (-52), 3) := by decide +kernel
theorem dL_feeds_75 : decode cL_feeds 75 = .ok (.aload_n 0, 1) := by decide +kernel
theorem dL_feeds_76 : decode cL_feeds 76 = .ok (.aload 4, 2) := by decide +kernel
theorem dL_feeds_78 : decode cL_feeds 78 = .ok (.iconst 0, 1) := by decide +kernel
theorem dL_feeds_79 : decode cL_feeds 79 = .ok (.iaload, 1) := by decide +kernel
theorem dL_feeds_80 : decode cL_feeds 80 = .ok (.aload 4, 2) := by decide +kernel
theorem dL_feeds_82 : decode cL_feeds 82 = .ok (.iconst 1, 1) := by decide +kernel
theorem dL_feeds_83 : decode cL_feeds 83 = .ok (.iaload, 1) := by decide +kernel
theorem dL_feeds_84 : decode cL_feeds 84 = .ok (.aload 4, 2) := by decide +kernel
theorem dL_feeds_86 : decode cL_feeds 86 = .ok (.iconst 2, 1) := by decide +kernel
theorem dL_feeds_87 : decode cL_feeds 87 = .ok (.iaload, 1) := by decide +kernel
theorem dL_feeds_88 : decode cL_feeds 88 = .ok (.aload 4, 2) := by decide +kernel
theorem dL_feeds_90 : decode cL_feeds 90 = .ok (.iconst 3, 1) := by decide +kernel
theorem dL_feeds_91 : decode cL_feeds 91 = .ok (.iaload, 1) := by decide +kernel
theorem dL_feeds_92 : decode cL_feeds 92 = .ok (.aload 4, 2) := by decide +kernel
theorem dL_feeds_94 : decode cL_feeds 94 = .ok (.iconst 4, 1) := by decide +kernel
theorem dL_feeds_95 : decode cL_feeds 95 = .ok (.iaload, 1) := by decide +kernel
theorem dL_feeds_96 : decode cL_feeds 96 = .ok (.invokevirtual 26, 3) := by decide +kernel
theorem dL_feeds_99 : decode cL_feeds 99 = .ok (.istore_n 2, 1) := by decide +kernel
theorem dL_feeds_100 : decode cL_feeds 100 = .ok (.iinc 3 20, 3) := by decide +kernel
theorem dL_feeds_103 : decode cL_feeds 103 = .ok (.goto (-99), 3) := by decide +kernel
theorem dL_feeds_106 : decode cL_feeds 106 = .ok (.aload_n 1, 1) := by decide +kernel
theorem dL_feeds_107 : decode cL_feeds 107 = .ok (.invokevirtual 32, 3) := by decide +kernel
theorem dL_feeds_110 : decode cL_feeds 110 = .ok (.ifCond .ne 26, 3) := by decide +kernel
theorem dL_feeds_113 : decode cL_feeds 113 = .ok (.iload_n 2, 1) := by decide +kernel
theorem dL_feeds_114 : decode cL_feeds 114 = .ok (.aload_n 1, 1) := by decide +kernel
theorem dL_feeds_115 : decode cL_feeds 115 = .ok (.invokevirtual 16, 3) := by decide +kernel
theorem dL_feeds_118 : decode cL_feeds 118 = .ok (.if_icmp .lt 22, 3) := by decide +kernel
theorem dL_feeds_121 : decode cL_feeds 121 = .ok (.aload_n 0, 1) := by decide +kernel
theorem dL_feeds_122 : decode cL_feeds 122 = .ok (.aload_n 1, 1) := by decide +kernel
theorem dL_feeds_123 : decode cL_feeds 123 = .ok (.invokevirtual 16, 3) := by decide +kernel
theorem dL_feeds_126 : decode cL_feeds 126 = .ok (.invokevirtual 36, 3) := by decide +kernel
theorem dL_feeds_129 : decode cL_feeds 129 = .ok (.aload_n 1, 1) := by decide +kernel
theorem dL_feeds_130 : decode cL_feeds 130 = .ok (.invokevirtual 16, 3) := by decide +kernel
theorem dL_feeds_133 : decode cL_feeds 133 = .ok (.if_icmp .ne 7, 3) := by decide +kernel
theorem dL_feeds_136 : decode cL_feeds 136 = .ok (.iconst 1, 1) := by decide +kernel
theorem dL_feeds_137 : decode cL_feeds 137 = .ok (.goto 4, 3) := by decide +kernel
theorem dL_feeds_140 : decode cL_feeds 140 = .ok (.iconst 0, 1) := by decide +kernel
theorem dL_feeds_141 : decode cL_feeds 141 = .ok (.ireturn, 1) := by decide +kernel
theorem dL_alike_0 : decode cL_alike 0 = .ok (.iconst 0, 1) := by decide +kernel
theorem dL_alike_1 : decode cL_alike 1 = .ok (.istore_n 2, 1) := by decide +kernel
theorem dL_alike_2 : decode cL_alike 2 = .ok (.iconst 0, 1) := by decide +kernel
theorem dL_alike_3 : decode cL_alike 3 = .ok (.istore_n 3, 1) := by decide +kernel
theorem dL_alike_4 : decode cL_alike 4 = .ok (.iconst 0, 1) := by decide +kernel
theorem dL_alike_5 : decode cL_alike 5 = .ok (.istore 4, 2) := by decide +kernel
theorem dL_alike_7 : decode cL_alike 7 = .ok (.iload 4, 2) := by decide +kernel
theorem dL_alike_9 : decode cL_alike 9 = .ok (.aload_n 1, 1) := by decide +kernel
theorem dL_alike_10 : decode cL_alike 10 = .ok (.getfield 40, 3) := by decide +kernel
theorem dL_alike_13 : decode cL_alike 13 = .ok (.invokeinterface 46 1, 5) := by decide +kernel
theorem dL_alike_18 : decode cL_alike 18 = .ok (.if_icmp .ge 466, 3) := by decide +kernel
theorem dL_alike_21 : decode cL_alike 21 = .ok (.aload_n 1, 1) := by decide +kernel
theorem dL_alike_22 : decode cL_alike 22 = .ok (.getfield 40, 3) := by decide +kernel
theorem dL_alike_25 : decode cL_alike 25 = .ok (.iload 4, 2) := by decide +kernel
theorem dL_alike_27 : decode cL_alike 27 = .ok (.invokeinterface 51 2, 5) := by decide +kernel
theorem dL_alike_32 : decode cL_alike 32 = .ok (.checkcast 55, 3) := by decide +kernel
theorem dL_alike_35 : decode cL_alike 35 = .ok (.astore 5, 2) := by decide +kernel
theorem dL_alike_37 : decode cL_alike 37 = .ok (.iconst 0, 1) := by decide +kernel
theorem dL_alike_38 : decode cL_alike 38 = .ok (.istore 6, 2) := by decide +kernel
theorem dL_alike_40 : decode cL_alike 40 = .ok (.iconst 0, 1) := by decide +kernel
theorem dL_alike_41 : decode cL_alike 41 = .ok (.istore 7, 2) := by decide +kernel
theorem dL_alike_43 : decode cL_alike 43 = .ok (.iconst 0, 1) := by decide +kernel
theorem dL_alike_44 : decode cL_alike 44 = .ok (.istore 8, 2) := by decide +kernel
theorem dL_alike_46 : decode cL_alike 46 = .ok (.iconst 0, 1) := by decide +kernel
theorem dL_alike_47 : decode cL_alike 47 = .ok (.istore 9, 2) := by decide +kernel
theorem dL_alike_49 : decode cL_alike 49 = .ok (.iload 9, 2) := by decide +kernel
theorem dL_alike_51 : decode cL_alike 51 = .ok (.aload_n 1, 1) := by decide +kernel
theorem dL_alike_52 : decode cL_alike 52 = .ok (.getfield 40, 3) := by decide +kernel
theorem dL_alike_55 : decode cL_alike 55 = .ok (.invokeinterface 46 1, 5) := by decide +kernel
theorem dL_alike_60 : decode cL_alike 60 = .ok (.if_icmp .ge 139, 3) := by decide +kernel
theorem dL_alike_63 : decode cL_alike 63 = .ok (.iload 6, 2) := by decide +kernel
theorem dL_alike_65 : decode cL_alike 65 = .ok (.aload_n 1, 1) := by decide +kernel
theorem dL_alike_66 : decode cL_alike 66 = .ok (.getfield 57, 3) := by decide +kernel
theorem dL_alike_69 : decode cL_alike 69 = .ok (.iload 4, 2) := by decide +kernel
theorem dL_alike_71 : decode cL_alike 71 = .ok (.aaload, 1) := by decide +kernel
theorem dL_alike_72 : decode cL_alike 72 = .ok (.iload 9, 2) := by decide +kernel
theorem dL_alike_74 : decode cL_alike 74 = .ok (.baload, 1) := by decide +kernel
theorem dL_alike_75 : decode cL_alike 75 = .ok (.ifCond .eq 10, 3) := by decide +kernel
theorem dL_alike_78 : decode cL_alike 78 = .ok (.iconst 1, 1) := by decide +kernel
theorem dL_alike_79 : decode cL_alike 79 = .ok (.iload 9, 2) := by decide +kernel
theorem dL_alike_81 : decode cL_alike 81 = .ok (.ishl, 1) := by decide +kernel
theorem dL_alike_82 : decode cL_alike 82 = .ok (.goto 4, 3) := by decide +kernel
theorem dL_alike_85 : decode cL_alike 85 = .ok (.iconst 0, 1) := by decide +kernel
theorem dL_alike_86 : decode cL_alike 86 = .ok (.ior, 1) := by decide +kernel
theorem dL_alike_87 : decode cL_alike 87 = .ok (.istore 6, 2) := by decide +kernel
theorem dL_alike_89 : decode cL_alike 89 = .ok (.iload 7, 2) := by decide +kernel
theorem dL_alike_91 : decode cL_alike 91 = .ok (.aload_n 1, 1) := by decide +kernel
theorem dL_alike_92 : decode cL_alike 92 = .ok (.iload 4, 2) := by decide +kernel
theorem dL_alike_94 : decode cL_alike 94 = .ok (.iload 9, 2) := by decide +kernel
theorem dL_alike_96 : decode cL_alike 96 = .ok (.invokevirtual 61, 3) := by decide +kernel
theorem dL_alike_99 : decode cL_alike 99 = .ok (.ifCond .eq 10, 3) := by decide +kernel
theorem dL_alike_102 : decode cL_alike 102 = .ok (.iconst 1, 1) := by decide +kernel
theorem dL_alike_103 : decode cL_alike 103 = .ok (.iload 9, 2) := by decide +kernel
theorem dL_alike_105 : decode cL_alike 105 = .ok (.ishl, 1) := by decide +kernel
theorem dL_alike_106 : decode cL_alike 106 = .ok (.goto 4, 3) := by decide +kernel
theorem dL_alike_109 : decode cL_alike 109 = .ok (.iconst 0, 1) := by decide +kernel
theorem dL_alike_110 : decode cL_alike 110 = .ok (.ior, 1) := by decide +kernel
theorem dL_alike_111 : decode cL_alike 111 = .ok (.istore 7, 2) := by decide +kernel
theorem dL_alike_113 : decode cL_alike 113 = .ok (.iload_n 2, 1) := by decide +kernel
theorem dL_alike_114 : decode cL_alike 114 = .ok (.aload_n 1, 1) := by decide +kernel
theorem dL_alike_115 : decode cL_alike 115 = .ok (.getfield 57, 3) := by decide +kernel
theorem dL_alike_118 : decode cL_alike 118 = .ok (.iload 4, 2) := by decide +kernel
theorem dL_alike_120 : decode cL_alike 120 = .ok (.aaload, 1) := by decide +kernel
theorem dL_alike_121 : decode cL_alike 121 = .ok (.iload 9, 2) := by decide +kernel
theorem dL_alike_123 : decode cL_alike 123 = .ok (.baload, 1) := by decide +kernel
theorem dL_alike_124 : decode cL_alike 124 = .ok (.ifCond .eq 7, 3) := by decide +kernel
theorem dL_alike_127 : decode cL_alike 127 = .ok (.iconst 1, 1) := by decide +kernel
theorem dL_alike_128 : decode cL_alike 128 = .ok (.goto 4, 3) := by decide +kernel
theorem dL_alike_131 : decode cL_alike 131 = .ok (.iconst 0, 1) := by decide +kernel
theorem dL_alike_132 : decode cL_alike 132 = .ok (.iadd, 1) := by decide +kernel
theorem dL_alike_133 : decode cL_alike 133 = .ok (.istore_n 2, 1) := by decide +kernel
theorem dL_alike_134 : decode cL_alike 134 = .ok (.aload_n 0, 1) := by decide +kernel
theorem dL_alike_135 : decode cL_alike 135 = .ok (.iload 4, 2) := by decide +kernel
theorem dL_alike_137 : decode cL_alike 137 = .ok (.iload 9, 2) := by decide +kernel
theorem dL_alike_139 : decode cL_alike 139 = .ok (.invokevirtual 65, 3) := by decide +kernel
theorem dL_alike_142 : decode cL_alike 142 = .ok (.aload 5, 2) := by decide +kernel
theorem dL_alike_144 : decode cL_alike 144 = .ok (.getfield 69, 3) := by decide +kernel
theorem dL_alike_147 : decode cL_alike 147 = .ok (.iload 9, 2) := by decide +kernel
theorem dL_alike_149 : decode cL_alike 149 = .ok (.iaload, 1) := by decide +kernel
theorem dL_alike_150 : decode cL_alike 150 = .ok (.if_icmp .ne 41, 3) := by decide +kernel
theorem dL_alike_153 : decode cL_alike 153 = .ok (.aload_n 0, 1) := by decide +kernel
theorem dL_alike_154 : decode cL_alike 154 = .ok (.iload 4, 2) := by decide +kernel
theorem dL_alike_156 : decode cL_alike 156 = .ok (.iload 9, 2) := by decide +kernel
theorem dL_alike_158 : decode cL_alike 158 = .ok (.invokevirtual 72, 3) := by decide +kernel
theorem dL_alike_161 : decode cL_alike 161 = .ok (.aload 5, 2) := by decide +kernel
theorem dL_alike_163 : decode cL_alike 163 = .ok (.getfield 75, 3) := by decide +kernel
theorem dL_alike_166 : decode cL_alike 166 = .ok (.iload 9, 2) := by decide +kernel
theorem dL_alike_168 : decode cL_alike 168 = .ok (.iaload, 1) := by decide +kernel
theorem dL_alike_169 : decode cL_alike 169 = .ok (.if_icmp .ne 22, 3) := by decide +kernel
theorem dL_alike_172 : decode cL_alike 172 = .ok (.aload_n 0, 1) := by decide +kernel
theorem dL_alike_173 : decode cL_alike 173 = .ok (.iload 4, 2) := by decide +kernel
theorem dL_alike_175 : decode cL_alike 175 = .ok (.iload 9, 2) := by decide +kernel
theorem dL_alike_177 : decode cL_alike 177 = .ok (.invokevirtual 78, 3) := by decide +kernel
theorem dL_alike_180 : decode cL_alike 180 = .ok (.aload_n 1, 1) := by decide +kernel
theorem dL_alike_181 : decode cL_alike 181 = .ok (.iload 4, 2) := by decide +kernel
theorem dL_alike_183 : decode cL_alike 183 = .ok (.iload 9, 2) := by decide +kernel
theorem dL_alike_185 : decode cL_alike 185 = .ok (.invokevirtual 61, 3) := by decide +kernel
theorem dL_alike_188 : decode cL_alike 188 = .ok (.if_icmp .eq 5, 3) := by decide +kernel
theorem dL_alike_191 : decode cL_alike 191 = .ok (.iconst 0, 1) := by decide +kernel
theorem dL_alike_192 : decode cL_alike 192 = .ok (.ireturn, 1) := by decide +kernel
theorem dL_alike_193 : decode cL_alike 193 = .ok (.iinc 9 1, 3) := by decide +kernel
theorem dL_alike_196 : decode cL_alike 196 = .ok (.goto (-147), 3) := by decide +kernel
theorem dL_alike_199 : decode cL_alike 199 = .ok (.bipush 14, 2) := by decide +kernel
theorem dL_alike_201 : decode cL_alike 201 = .ok (.newarray .int, 2) := by decide +kernel
theorem dL_alike_203 : decode cL_alike 203 = .ok (.dup, 1) := by decide +kernel
theorem dL_alike_204 : decode cL_alike 204 = .ok (.iconst 0, 1) := by decide +kernel
theorem dL_alike_205 : decode cL_alike 205 = .ok (.aload 5, 2) := by decide +kernel
theorem dL_alike_207 : decode cL_alike 207 = .ok (.getfield 79, 3) := by decide +kernel
theorem dL_alike_210 : decode cL_alike 210 = .ok (.iastore, 1) := by decide +kernel
theorem dL_alike_211 : decode cL_alike 211 = .ok (.dup, 1) := by decide +kernel
theorem dL_alike_212 : decode cL_alike 212 = .ok (.iconst 1, 1) := by decide +kernel
theorem dL_alike_213 : decode cL_alike 213 = .ok (.aload 5, 2) := by decide +kernel
theorem dL_alike_215 : decode cL_alike 215 = .ok (.getfield 83, 3) := by decide +kernel
theorem dL_alike_218 : decode cL_alike 218 = .ok (.iastore, 1) := by decide +kernel
theorem dL_alike_219 : decode cL_alike 219 = .ok (.dup, 1) := by decide +kernel
theorem dL_alike_220 : decode cL_alike 220 = .ok (.iconst 2, 1) := by decide +kernel
theorem dL_alike_221 : decode cL_alike 221 = .ok (.aload 5, 2) := by decide +kernel
theorem dL_alike_223 : decode cL_alike 223 = .ok (.getfield 86, 3) := by decide +kernel
theorem dL_alike_226 : decode cL_alike 226 = .ok (.iastore, 1) := by decide +kernel
theorem dL_alike_227 : decode cL_alike 227 = .ok (.dup, 1) := by decide +kernel
theorem dL_alike_228 : decode cL_alike 228 = .ok (.iconst 3, 1) := by decide +kernel
theorem dL_alike_229 : decode cL_alike 229 = .ok (.aload 5, 2) := by decide +kernel
theorem dL_alike_231 : decode cL_alike 231 = .ok (.getfield 89, 3) := by decide +kernel
theorem dL_alike_234 : decode cL_alike 234 = .ok (.iastore, 1) := by decide +kernel
theorem dL_alike_235 : decode cL_alike 235 = .ok (.dup, 1) := by decide +kernel
theorem dL_alike_236 : decode cL_alike 236 = .ok (.iconst 4, 1) := by decide +kernel
theorem dL_alike_237 : decode cL_alike 237 = .ok (.aload 5, 2) := by decide +kernel
theorem dL_alike_239 : decode cL_alike 239 = .ok (.getfield 92, 3) := by decide +kernel
theorem dL_alike_242 : decode cL_alike 242 = .ok (.iastore, 1) := by decide +kernel
theorem dL_alike_243 : decode cL_alike 243 = .ok (.dup, 1) := by decide +kernel
theorem dL_alike_244 : decode cL_alike 244 = .ok (.iconst 5, 1) := by decide +kernel
theorem dL_alike_245 : decode cL_alike 245 = .ok (.aload 5, 2) := by decide +kernel
theorem dL_alike_247 : decode cL_alike 247 = .ok (.getfield 95, 3) := by decide +kernel
theorem dL_alike_250 : decode cL_alike 250 = .ok (.iastore, 1) := by decide +kernel
theorem dL_alike_251 : decode cL_alike 251 = .ok (.dup, 1) := by decide +kernel
theorem dL_alike_252 : decode cL_alike 252 = .ok (.bipush 6, 2) := by decide +kernel
theorem dL_alike_254 : decode cL_alike 254 = .ok (.aload 5, 2) := by decide +kernel
theorem dL_alike_256 : decode cL_alike 256 = .ok (.getfield 98, 3) := by decide +kernel
theorem dL_alike_259 : decode cL_alike 259 = .ok (.iastore, 1) := by decide +kernel
theorem dL_alike_260 : decode cL_alike 260 = .ok (.dup, 1) := by decide +kernel
theorem dL_alike_261 : decode cL_alike 261 = .ok (.bipush 7, 2) := by decide +kernel
theorem dL_alike_263 : decode cL_alike 263 = .ok (.aload 5, 2) := by decide +kernel
theorem dL_alike_265 : decode cL_alike 265 = .ok (.getfield 101, 3) := by decide +kernel
theorem dL_alike_268 : decode cL_alike 268 = .ok (.iastore, 1) := by decide +kernel
theorem dL_alike_269 : decode cL_alike 269 = .ok (.dup, 1) := by decide +kernel
theorem dL_alike_270 : decode cL_alike 270 = .ok (.bipush 8, 2) := by decide +kernel
theorem dL_alike_272 : decode cL_alike 272 = .ok (.aload 5, 2) := by decide +kernel
theorem dL_alike_274 : decode cL_alike 274 = .ok (.getfield 104, 3) := by decide +kernel
theorem dL_alike_277 : decode cL_alike 277 = .ok (.ifCond .eq 7, 3) := by decide +kernel
theorem dL_alike_280 : decode cL_alike 280 = .ok (.iconst 1, 1) := by decide +kernel
theorem dL_alike_281 : decode cL_alike 281 = .ok (.goto 4, 3) := by decide +kernel
theorem dL_alike_284 : decode cL_alike 284 = .ok (.iconst 0, 1) := by decide +kernel
theorem dL_alike_285 : decode cL_alike 285 = .ok (.iastore, 1) := by decide +kernel
theorem dL_alike_286 : decode cL_alike 286 = .ok (.dup, 1) := by decide +kernel
theorem dL_alike_287 : decode cL_alike 287 = .ok (.bipush 9, 2) := by decide +kernel
theorem dL_alike_289 : decode cL_alike 289 = .ok (.iload 6, 2) := by decide +kernel
theorem dL_alike_291 : decode cL_alike 291 = .ok (.iastore, 1) := by decide +kernel
theorem dL_alike_292 : decode cL_alike 292 = .ok (.dup, 1) := by decide +kernel
theorem dL_alike_293 : decode cL_alike 293 = .ok (.bipush 10, 2) := by decide +kernel
theorem dL_alike_295 : decode cL_alike 295 = .ok (.iload 7, 2) := by decide +kernel
theorem dL_alike_297 : decode cL_alike 297 = .ok (.iastore, 1) := by decide +kernel
theorem dL_alike_298 : decode cL_alike 298 = .ok (.dup, 1) := by decide +kernel
theorem dL_alike_299 : decode cL_alike 299 = .ok (.bipush 11, 2) := by decide +kernel
theorem dL_alike_301 : decode cL_alike 301 = .ok (.aload 5, 2) := by decide +kernel
theorem dL_alike_303 : decode cL_alike 303 = .ok (.getfield 108, 3) := by decide +kernel
theorem dL_alike_306 : decode cL_alike 306 = .ok (.iastore, 1) := by decide +kernel
theorem dL_alike_307 : decode cL_alike 307 = .ok (.dup, 1) := by decide +kernel
theorem dL_alike_308 : decode cL_alike 308 = .ok (.bipush 12, 2) := by decide +kernel
theorem dL_alike_310 : decode cL_alike 310 = .ok (.aload 5, 2) := by decide +kernel
theorem dL_alike_312 : decode cL_alike 312 = .ok (.getfield 111, 3) := by decide +kernel
theorem dL_alike_315 : decode cL_alike 315 = .ok (.iastore, 1) := by decide +kernel
theorem dL_alike_316 : decode cL_alike 316 = .ok (.dup, 1) := by decide +kernel
theorem dL_alike_317 : decode cL_alike 317 = .ok (.bipush 13, 2) := by decide +kernel
theorem dL_alike_319 : decode cL_alike 319 = .ok (.aload 5, 2) := by decide +kernel
theorem dL_alike_321 : decode cL_alike 321 = .ok (.getfield 114, 3) := by decide +kernel
theorem dL_alike_324 : decode cL_alike 324 = .ok (.iastore, 1) := by decide +kernel
theorem dL_alike_325 : decode cL_alike 325 = .ok (.astore 9, 2) := by decide +kernel
theorem dL_alike_327 : decode cL_alike 327 = .ok (.iconst 0, 1) := by decide +kernel
theorem dL_alike_328 : decode cL_alike 328 = .ok (.istore 10, 2) := by decide +kernel
theorem dL_alike_330 : decode cL_alike 330 = .ok (.iload 10, 2) := by decide +kernel
theorem dL_alike_332 : decode cL_alike 332 = .ok (.bipush 14, 2) := by decide +kernel
theorem dL_alike_334 : decode cL_alike 334 = .ok (.if_icmp .ge 27, 3) := by decide +kernel
theorem dL_alike_337 : decode cL_alike 337 = .ok (.aload_n 0, 1) := by decide +kernel
theorem dL_alike_338 : decode cL_alike 338 = .ok (.iload 4, 2) := by decide +kernel
theorem dL_alike_340 : decode cL_alike 340 = .ok (.iload 10, 2) := by decide +kernel
theorem dL_alike_342 : decode cL_alike 342 = .ok (.invokevirtual 117, 3) := by decide +kernel
theorem dL_alike_345 : decode cL_alike 345 = .ok (.aload 9, 2) := by decide +kernel
theorem dL_alike_347 : decode cL_alike 347 = .ok (.iload 10, 2) := by decide +kernel
theorem dL_alike_349 : decode cL_alike 349 = .ok (.iaload, 1) := by decide +kernel
theorem dL_alike_350 : decode cL_alike 350 = .ok (.if_icmp .eq 5, 3) := by decide +kernel
theorem dL_alike_353 : decode cL_alike 353 = .ok (.iconst 0, 1) := by decide +kernel
theorem dL_alike_354 : decode cL_alike 354 = .ok (.ireturn, 1) := by decide +kernel
theorem dL_alike_355 : decode cL_alike 355 = .ok (.iinc 10 1, 3) := by decide +kernel
theorem dL_alike_358 : decode cL_alike 358 = .ok (.goto (-28), 3) := by decide +kernel
theorem dL_alike_361 : decode cL_alike 361 = .ok (.iconst 0, 1) := by decide +kernel
theorem dL_alike_362 : decode cL_alike 362 = .ok (.istore 10, 2) := by decide +kernel
theorem dL_alike_364 : decode cL_alike 364 = .ok (.iload 10, 2) := by decide +kernel
theorem dL_alike_366 : decode cL_alike 366 = .ok (.iconst 4, 1) := by decide +kernel
theorem dL_alike_367 : decode cL_alike 367 = .ok (.if_icmp .ge 51, 3) := by decide +kernel
theorem dL_alike_370 : decode cL_alike 370 = .ok (.aload_n 0, 1) := by decide +kernel
theorem dL_alike_371 : decode cL_alike 371 = .ok (.iload 4, 2) := by decide +kernel
theorem dL_alike_373 : decode cL_alike 373 = .ok (.iload 10, 2) := by decide +kernel
theorem dL_alike_375 : decode cL_alike 375 = .ok (.invokevirtual 120, 3) := by decide +kernel
theorem dL_alike_378 : decode cL_alike 378 = .ok (.aload 5, 2) := by decide +kernel
theorem dL_alike_380 : decode cL_alike 380 = .ok (.getfield 123, 3) := by decide +kernel
theorem dL_alike_383 : decode cL_alike 383 = .ok (.iload 10, 2) := by decide +kernel
theorem dL_alike_385 : decode cL_alike 385 = .ok (.iaload, 1) := by decide +kernel
theorem dL_alike_386 : decode cL_alike 386 = .ok (.if_icmp .eq 5, 3) := by decide +kernel
theorem dL_alike_389 : decode cL_alike 389 = .ok (.iconst 0, 1) := by decide +kernel
theorem dL_alike_390 : decode cL_alike 390 = .ok (.ireturn, 1) := by decide +kernel
theorem dL_alike_391 : decode cL_alike 391 = .ok (.iload 8, 2) := by decide +kernel
theorem dL_alike_393 : decode cL_alike 393 = .ok (.aload 5, 2) := by decide +kernel
theorem dL_alike_395 : decode cL_alike 395 = .ok (.getfield 123, 3) := by decide +kernel
theorem dL_alike_398 : decode cL_alike 398 = .ok (.iload 10, 2) := by decide +kernel
theorem dL_alike_400 : decode cL_alike 400 = .ok (.iaload, 1) := by decide +kernel
theorem dL_alike_401 : decode cL_alike 401 = .ok (.aload_n 1, 1) := by decide +kernel
theorem dL_alike_402 : decode cL_alike 402 = .ok (.getfield 125, 3) := by decide +kernel
theorem dL_alike_405 : decode cL_alike 405 = .ok (.iload 10, 2) := by decide +kernel
theorem dL_alike_407 : decode cL_alike 407 = .ok (.iaload, 1) := by decide +kernel
theorem dL_alike_408 : decode cL_alike 408 = .ok (.imul, 1) := by decide +kernel
theorem dL_alike_409 : decode cL_alike 409 = .ok (.iadd, 1) := by decide +kernel
theorem dL_alike_410 : decode cL_alike 410 = .ok (.istore 8, 2) := by decide +kernel
theorem dL_alike_412 : decode cL_alike 412 = .ok (.iinc 10 1, 3) := by decide +kernel
theorem dL_alike_415 : decode cL_alike 415 = .ok (.goto (-51), 3) := by decide +kernel
theorem dL_alike_418 : decode cL_alike 418 = .ok (.aload_n 0, 1) := by decide +kernel
theorem dL_alike_419 : decode cL_alike 419 = .ok (.iload 4, 2) := by decide +kernel
theorem dL_alike_421 : decode cL_alike 421 = .ok (.invokevirtual 128, 3) := by decide +kernel
theorem dL_alike_424 : decode cL_alike 424 = .ok (.iload 8, 2) := by decide +kernel
theorem dL_alike_426 : decode cL_alike 426 = .ok (.if_icmp .ne 33, 3) := by decide +kernel
theorem dL_alike_429 : decode cL_alike 429 = .ok (.aload_n 0, 1) := by decide +kernel
theorem dL_alike_430 : decode cL_alike 430 = .ok (.iload 4, 2) := by decide +kernel
theorem dL_alike_432 : decode cL_alike 432 = .ok (.invokevirtual 131, 3) := by decide +kernel
theorem dL_alike_435 : decode cL_alike 435 = .ok (.aload_n 1, 1) := by decide +kernel
theorem dL_alike_436 : decode cL_alike 436 = .ok (.iload 4, 2) := by decide +kernel
theorem dL_alike_438 : decode cL_alike 438 = .ok (.invokevirtual 134, 3) := by decide +kernel
theorem dL_alike_441 : decode cL_alike 441 = .ok (.if_icmp .ne 18, 3) := by decide +kernel
theorem dL_alike_444 : decode cL_alike 444 = .ok (.aload_n 0, 1) := by decide +kernel
theorem dL_alike_445 : decode cL_alike 445 = .ok (.iload 4, 2) := by decide +kernel
theorem dL_alike_447 : decode cL_alike 447 = .ok (.invokevirtual 135, 3) := by decide +kernel
theorem dL_alike_450 : decode cL_alike 450 = .ok (.aload_n 1, 1) := by decide +kernel
theorem dL_alike_451 : decode cL_alike 451 = .ok (.iload 4, 2) := by decide +kernel
theorem dL_alike_453 : decode cL_alike 453 = .ok (.invokevirtual 138, 3) := by decide +kernel
theorem dL_alike_456 : decode cL_alike 456 = .ok (.if_icmp .eq 5, 3) := by decide +kernel
theorem dL_alike_459 : decode cL_alike 459 = .ok (.iconst 0, 1) := by decide +kernel
theorem dL_alike_460 : decode cL_alike 460 = .ok (.ireturn, 1) := by decide +kernel
theorem dL_alike_461 : decode cL_alike 461 = .ok (.iload_n 3, 1) := by decide +kernel
theorem dL_alike_462 : decode cL_alike 462 = .ok (.aload 5, 2) := by decide +kernel
theorem dL_alike_464 : decode cL_alike 464 = .ok (.getfield 95, 3) := by decide +kernel
theorem dL_alike_467 : decode cL_alike 467 = .ok (.iconst 4, 1) := by decide +kernel
theorem dL_alike_468 : decode cL_alike 468 = .ok (.if_icmp .ne 7, 3) := by decide +kernel
theorem dL_alike_471 : decode cL_alike 471 = .ok (.iconst 1, 1) := by decide +kernel
theorem dL_alike_472 : decode cL_alike 472 = .ok (.goto 4, 3) := by decide +kernel
theorem dL_alike_475 : decode cL_alike 475 = .ok (.iconst 0, 1) := by decide +kernel
theorem dL_alike_476 : decode cL_alike 476 = .ok (.iadd, 1) := by decide +kernel
theorem dL_alike_477 : decode cL_alike 477 = .ok (.istore_n 3, 1) := by decide +kernel
theorem dL_alike_478 : decode cL_alike 478 = .ok (.iinc 4 1, 3) := by decide +kernel
theorem dL_alike_481 : decode cL_alike 481 = .ok (.goto (-474), 3) := by decide +kernel
theorem dL_alike_484 : decode cL_alike 484 = .ok (.bipush 10, 2) := by decide +kernel
theorem dL_alike_486 : decode cL_alike 486 = .ok (.newarray .int, 2) := by decide +kernel
theorem dL_alike_488 : decode cL_alike 488 = .ok (.dup, 1) := by decide +kernel
theorem dL_alike_489 : decode cL_alike 489 = .ok (.iconst 0, 1) := by decide +kernel
theorem dL_alike_490 : decode cL_alike 490 = .ok (.aload_n 1, 1) := by decide +kernel
theorem dL_alike_491 : decode cL_alike 491 = .ok (.getfield 40, 3) := by decide +kernel
theorem dL_alike_494 : decode cL_alike 494 = .ok (.invokeinterface 46 1, 5) := by decide +kernel
theorem dL_alike_499 : decode cL_alike 499 = .ok (.iastore, 1) := by decide +kernel
theorem dL_alike_500 : decode cL_alike 500 = .ok (.dup, 1) := by decide +kernel
theorem dL_alike_501 : decode cL_alike 501 = .ok (.iconst 1, 1) := by decide +kernel
theorem dL_alike_502 : decode cL_alike 502 = .ok (.iload_n 2, 1) := by decide +kernel
theorem dL_alike_503 : decode cL_alike 503 = .ok (.iconst 2, 1) := by decide +kernel
theorem dL_alike_504 : decode cL_alike 504 = .ok (.idiv, 1) := by decide +kernel
theorem dL_alike_505 : decode cL_alike 505 = .ok (.iastore, 1) := by decide +kernel
theorem dL_alike_506 : decode cL_alike 506 = .ok (.dup, 1) := by decide +kernel
theorem dL_alike_507 : decode cL_alike 507 = .ok (.iconst 2, 1) := by decide +kernel
theorem dL_alike_508 : decode cL_alike 508 = .ok (.aload_n 1, 1) := by decide +kernel
theorem dL_alike_509 : decode cL_alike 509 = .ok (.getfield 141, 3) := by decide +kernel
theorem dL_alike_512 : decode cL_alike 512 = .ok (.iastore, 1) := by decide +kernel
theorem dL_alike_513 : decode cL_alike 513 = .ok (.dup, 1) := by decide +kernel
theorem dL_alike_514 : decode cL_alike 514 = .ok (.iconst 3, 1) := by decide +kernel
theorem dL_alike_515 : decode cL_alike 515 = .ok (.aload_n 1, 1) := by decide +kernel
theorem dL_alike_516 : decode cL_alike 516 = .ok (.getfield 144, 3) := by decide +kernel
theorem dL_alike_519 : decode cL_alike 519 = .ok (.iastore, 1) := by decide +kernel
theorem dL_alike_520 : decode cL_alike 520 = .ok (.dup, 1) := by decide +kernel
theorem dL_alike_521 : decode cL_alike 521 = .ok (.iconst 4, 1) := by decide +kernel
theorem dL_alike_522 : decode cL_alike 522 = .ok (.aload_n 1, 1) := by decide +kernel
theorem dL_alike_523 : decode cL_alike 523 = .ok (.getfield 147, 3) := by decide +kernel
theorem dL_alike_526 : decode cL_alike 526 = .ok (.iastore, 1) := by decide +kernel
theorem dL_alike_527 : decode cL_alike 527 = .ok (.dup, 1) := by decide +kernel
theorem dL_alike_528 : decode cL_alike 528 = .ok (.iconst 5, 1) := by decide +kernel
theorem dL_alike_529 : decode cL_alike 529 = .ok (.aload_n 1, 1) := by decide +kernel
theorem dL_alike_530 : decode cL_alike 530 = .ok (.getfield 150, 3) := by decide +kernel
theorem dL_alike_533 : decode cL_alike 533 = .ok (.iastore, 1) := by decide +kernel
theorem dL_alike_534 : decode cL_alike 534 = .ok (.dup, 1) := by decide +kernel
theorem dL_alike_535 : decode cL_alike 535 = .ok (.bipush 6, 2) := by decide +kernel
theorem dL_alike_537 : decode cL_alike 537 = .ok (.aload_n 1, 1) := by decide +kernel
theorem dL_alike_538 : decode cL_alike 538 = .ok (.getfield 151, 3) := by decide +kernel
theorem dL_alike_541 : decode cL_alike 541 = .ok (.iastore, 1) := by decide +kernel
theorem dL_alike_542 : decode cL_alike 542 = .ok (.dup, 1) := by decide +kernel
theorem dL_alike_543 : decode cL_alike 543 = .ok (.bipush 7, 2) := by decide +kernel
theorem dL_alike_545 : decode cL_alike 545 = .ok (.aload_n 1, 1) := by decide +kernel
theorem dL_alike_546 : decode cL_alike 546 = .ok (.getfield 152, 3) := by decide +kernel
theorem dL_alike_549 : decode cL_alike 549 = .ok (.iastore, 1) := by decide +kernel
theorem dL_alike_550 : decode cL_alike 550 = .ok (.dup, 1) := by decide +kernel
theorem dL_alike_551 : decode cL_alike 551 = .ok (.bipush 8, 2) := by decide +kernel
theorem dL_alike_553 : decode cL_alike 553 = .ok (.iload_n 3, 1) := by decide +kernel
theorem dL_alike_554 : decode cL_alike 554 = .ok (.iastore, 1) := by decide +kernel
theorem dL_alike_555 : decode cL_alike 555 = .ok (.dup, 1) := by decide +kernel
theorem dL_alike_556 : decode cL_alike 556 = .ok (.bipush 9, 2) := by decide +kernel
theorem dL_alike_558 : decode cL_alike 558 = .ok (.aload_n 1, 1) := by decide +kernel
theorem dL_alike_559 : decode cL_alike 559 = .ok (.getfield 155, 3) := by decide +kernel
theorem dL_alike_562 : decode cL_alike 562 = .ok (.iastore, 1) := by decide +kernel
theorem dL_alike_563 : decode cL_alike 563 = .ok (.astore 4, 2) := by decide +kernel
theorem dL_alike_565 : decode cL_alike 565 = .ok (.iconst 0, 1) := by decide +kernel
theorem dL_alike_566 : decode cL_alike 566 = .ok (.istore 5, 2) := by decide +kernel
theorem dL_alike_568 : decode cL_alike 568 = .ok (.iload 5, 2) := by decide +kernel
theorem dL_alike_570 : decode cL_alike 570 = .ok (.bipush 10, 2) := by decide +kernel
theorem dL_alike_572 : decode cL_alike 572 = .ok (.if_icmp .ge 25, 3) := by decide +kernel
theorem dL_alike_575 : decode cL_alike 575 = .ok (.aload_n 0, 1) := by decide +kernel
theorem dL_alike_576 : decode cL_alike 576 = .ok (.iload 5, 2) := by decide +kernel
theorem dL_alike_578 : decode cL_alike 578 = .ok (.invokevirtual 158, 3) := by decide +kernel
theorem dL_alike_581 : decode cL_alike 581 = .ok (.aload 4, 2) := by decide +kernel
theorem dL_alike_583 : decode cL_alike 583 = .ok (.iload 5, 2) := by decide +kernel
theorem dL_alike_585 : decode cL_alike 585 = .ok (.iaload, 1) := by decide +kernel
theorem dL_alike_586 : decode cL_alike 586 = .ok (.if_icmp .eq 5, 3) := by decide +kernel
theorem dL_alike_589 : decode cL_alike 589 = .ok (.iconst 0, 1) := by decide +kernel
theorem dL_alike_590 : decode cL_alike 590 = .ok (.ireturn, 1) := by decide +kernel
theorem dL_alike_591 : decode cL_alike 591 = .ok (.iinc 5 1, 3) := by decide +kernel
theorem dL_alike_594 : decode cL_alike 594 = .ok (.goto (-26), 3) := by decide +kernel
theorem dL_alike_597 : decode cL_alike 597 = .ok (.iconst 1, 1) := by decide +kernel
theorem dL_alike_598 : decode cL_alike 598 = .ok (.ireturn, 1) := by decide +kernel
theorem dL_acts_0 : decode cL_acts 0 = .ok (.aload_n 2, 1) := by decide +kernel
theorem dL_acts_1 : decode cL_acts 1 = .ok (.sipush 340, 3) := by decide +kernel
theorem dL_acts_4 : decode cL_acts 4 = .ok (.iload_n 3, 1) := by decide +kernel
theorem dL_acts_5 : decode cL_acts 5 = .ok (.iadd, 1) := by decide +kernel
theorem dL_acts_6 : decode cL_acts 6 = .ok (.ldc 161, 2) := by decide +kernel
theorem dL_acts_8 : decode cL_acts 8 = .ok (.invokestatic 162, 3) := by decide +kernel
theorem dL_acts_11 : decode cL_acts 11 = .ok (.istore 4, 2) := by decide +kernel
theorem dL_acts_13 : decode cL_acts 13 = .ok (.aload_n 2, 1) := by decide +kernel
theorem dL_acts_14 : decode cL_acts 14 = .ok (.sipush 300, 3) := by decide +kernel
theorem dL_acts_17 : decode cL_acts 17 = .ok (.iload_n 3, 1) := by decide +kernel
theorem dL_acts_18 : decode cL_acts 18 = .ok (.iadd, 1) := by decide +kernel
theorem dL_acts_19 : decode cL_acts 19 = .ok (.bipush 14, 2) := by decide +kernel
theorem dL_acts_21 : decode cL_acts 21 = .ok (.invokestatic 162, 3) := by decide +kernel
theorem dL_acts_24 : decode cL_acts 24 = .ok (.istore 5, 2) := by decide +kernel
theorem dL_acts_26 : decode cL_acts 26 = .ok (.iload 5, 2) := by decide +kernel
theorem dL_acts_28 : decode cL_acts 28 = .ok (.bipush 6, 2) := by decide +kernel
theorem dL_acts_30 : decode cL_acts 30 = .ok (.if_icmp .ge 34, 3) := by decide +kernel
theorem dL_acts_33 : decode cL_acts 33 = .ok (.aload_n 0, 1) := by decide +kernel
theorem dL_acts_34 : decode cL_acts 34 = .ok (.iconst 1, 1) := by decide +kernel
theorem dL_acts_35 : decode cL_acts 35 = .ok (.iload 4, 2) := by decide +kernel
theorem dL_acts_37 : decode cL_acts 37 = .ok (.bipush 25, 2) := by decide +kernel
theorem dL_acts_39 : decode cL_acts 39 = .ok (.irem, 1) := by decide +kernel
theorem dL_acts_40 : decode cL_acts 40 = .ok (.iadd, 1) := by decide +kernel
theorem dL_acts_41 : decode cL_acts 41 = .ok (.invokevirtual 166, 3) := by decide +kernel
theorem dL_acts_44 : decode cL_acts 44 = .ok (.aload_n 1, 1) := by decide +kernel
theorem dL_acts_45 : decode cL_acts 45 = .ok (.iconst 1, 1) := by decide +kernel
theorem dL_acts_46 : decode cL_acts 46 = .ok (.iload 4, 2) := by decide +kernel
theorem dL_acts_48 : decode cL_acts 48 = .ok (.bipush 25, 2) := by decide +kernel
theorem dL_acts_50 : decode cL_acts 50 = .ok (.irem, 1) := by decide +kernel
theorem dL_acts_51 : decode cL_acts 51 = .ok (.iadd, 1) := by decide +kernel
theorem dL_acts_52 : decode cL_acts 52 = .ok (.invokevirtual 169, 3) := by decide +kernel
theorem dL_acts_55 : decode cL_acts 55 = .ok (.if_icmp .ne 7, 3) := by decide +kernel
theorem dL_acts_58 : decode cL_acts 58 = .ok (.iconst 1, 1) := by decide +kernel
theorem dL_acts_59 : decode cL_acts 59 = .ok (.goto 4, 3) := by decide +kernel
theorem dL_acts_62 : decode cL_acts 62 = .ok (.iconst 0, 1) := by decide +kernel
theorem dL_acts_63 : decode cL_acts 63 = .ok (.ireturn, 1) := by decide +kernel
theorem dL_acts_64 : decode cL_acts 64 = .ok (.iload 5, 2) := by decide +kernel
theorem dL_acts_66 : decode cL_acts 66 = .ok (.bipush 6, 2) := by decide +kernel
theorem dL_acts_68 : decode cL_acts 68 = .ok (.if_icmp .ne 39, 3) := by decide +kernel
theorem dL_acts_71 : decode cL_acts 71 = .ok (.aload_n 1, 1) := by decide +kernel
theorem dL_acts_72 : decode cL_acts 72 = .ok (.getfield 144, 3) := by decide +kernel
theorem dL_acts_75 : decode cL_acts 75 = .ok (.istore 6, 2) := by decide +kernel
theorem dL_acts_77 : decode cL_acts 77 = .ok (.aload_n 1, 1) := by decide +kernel
theorem dL_acts_78 : decode cL_acts 78 = .ok (.iconst 1, 1) := by decide +kernel
theorem dL_acts_79 : decode cL_acts 79 = .ok (.iload 4, 2) := by decide +kernel
theorem dL_acts_81 : decode cL_acts 81 = .ok (.bipush 9, 2) := by decide +kernel
theorem dL_acts_83 : decode cL_acts 83 = .ok (.irem, 1) := by decide +kernel
theorem dL_acts_84 : decode cL_acts 84 = .ok (.iadd, 1) := by decide +kernel
theorem dL_acts_85 : decode cL_acts 85 = .ok (.putfield 144, 3) := by decide +kernel
theorem dL_acts_88 : decode cL_acts 88 = .ok (.aload_n 0, 1) := by decide +kernel
theorem dL_acts_89 : decode cL_acts 89 = .ok (.aload_n 1, 1) := by decide +kernel
theorem dL_acts_90 : decode cL_acts 90 = .ok (.getfield 144, 3) := by decide +kernel
theorem dL_acts_93 : decode cL_acts 93 = .ok (.invokevirtual 170, 3) := by decide +kernel
theorem dL_acts_96 : decode cL_acts 96 = .ok (.iload 6, 2) := by decide +kernel
theorem dL_acts_98 : decode cL_acts 98 = .ok (.if_icmp .ne 7, 3) := by decide +kernel
theorem dL_acts_101 : decode cL_acts 101 = .ok (.iconst 1, 1) := by decide +kernel
theorem dL_acts_102 : decode cL_acts 102 = .ok (.goto 4, 3) := by decide +kernel
theorem dL_acts_105 : decode cL_acts 105 = .ok (.iconst 0, 1) := by decide +kernel
theorem dL_acts_106 : decode cL_acts 106 = .ok (.ireturn, 1) := by decide +kernel
theorem dL_acts_107 : decode cL_acts 107 = .ok (.aload_n 1, 1) := by decide +kernel
theorem dL_acts_108 : decode cL_acts 108 = .ok (.getfield 40, 3) := by decide +kernel
theorem dL_acts_111 : decode cL_acts 111 = .ok (.invokeinterface 173 1, 5) := by decide +kernel
theorem dL_acts_116 : decode cL_acts 116 = .ok (.ifCond .eq 5, 3) := by decide +kernel
theorem dL_acts_119 : decode cL_acts 119 = .ok (.iconst 1, 1) := by decide +kernel
theorem dL_acts_120 : decode cL_acts 120 = .ok (.ireturn, 1) := by decide +kernel
theorem dL_acts_121 : decode cL_acts 121 = .ok (.iload 4, 2) := by decide +kernel
theorem dL_acts_123 : decode cL_acts 123 = .ok (.aload_n 1, 1) := by decide +kernel
theorem dL_acts_124 : decode cL_acts 124 = .ok (.getfield 40, 3) := by decide +kernel
theorem dL_acts_127 : decode cL_acts 127 = .ok (.invokeinterface 46 1, 5) := by decide +kernel
theorem dL_acts_132 : decode cL_acts 132 = .ok (.irem, 1) := by decide +kernel
theorem dL_acts_133 : decode cL_acts 133 = .ok (.istore 6, 2) := by decide +kernel
theorem dL_acts_135 : decode cL_acts 135 = .ok (.iload 4, 2) := by decide +kernel
theorem dL_acts_137 : decode cL_acts 137 = .ok (.bipush 8, 2) := by decide +kernel
theorem dL_acts_139 : decode cL_acts 139 = .ok (.idiv, 1) := by decide +kernel
theorem dL_acts_140 : decode cL_acts 140 = .ok (.aload_n 1, 1) := by decide +kernel
theorem dL_acts_141 : decode cL_acts 141 = .ok (.getfield 40, 3) := by decide +kernel
theorem dL_acts_144 : decode cL_acts 144 = .ok (.invokeinterface 46 1, 5) := by decide +kernel
theorem dL_acts_149 : decode cL_acts 149 = .ok (.irem, 1) := by decide +kernel
theorem dL_acts_150 : decode cL_acts 150 = .ok (.istore 7, 2) := by decide +kernel
theorem dL_acts_152 : decode cL_acts 152 = .ok (.aload_n 1, 1) := by decide +kernel
theorem dL_acts_153 : decode cL_acts 153 = .ok (.getfield 40, 3) := by decide +kernel
theorem dL_acts_156 : decode cL_acts 156 = .ok (.iload 6, 2) := by decide +kernel
theorem dL_acts_158 : decode cL_acts 158 = .ok (.invokeinterface 51 2, 5) := by decide +kernel
theorem dL_acts_163 : decode cL_acts 163 = .ok (.checkcast 55, 3) := by decide +kernel
theorem dL_acts_166 : decode cL_acts 166 = .ok (.astore 8, 2) := by decide +kernel
theorem dL_acts_168 : decode cL_acts 168 = .ok (.iload 5, 2) := by decide +kernel
theorem dL_acts_170 : decode cL_acts 170 = .ok (.bipush 9, 2) := by decide +kernel
theorem dL_acts_172 : decode cL_acts 172 = .ok (.if_icmp .ge 54, 3) := by decide +kernel
theorem dL_acts_175 : decode cL_acts 175 = .ok (.aload 8, 2) := by decide +kernel
theorem dL_acts_177 : decode cL_acts 177 = .ok (.getfield 95, 3) := by decide +kernel
theorem dL_acts_180 : decode cL_acts 180 = .ok (.ifCond .eq 5, 3) := by decide +kernel
theorem dL_acts_183 : decode cL_acts 183 = .ok (.iconst 1, 1) := by decide +kernel
theorem dL_acts_184 : decode cL_acts 184 = .ok (.ireturn, 1) := by decide +kernel
theorem dL_acts_185 : decode cL_acts 185 = .ok (.aload 8, 2) := by decide +kernel
theorem dL_acts_187 : decode cL_acts 187 = .ok (.iconst 1, 1) := by decide +kernel
theorem dL_acts_188 : decode cL_acts 188 = .ok (.putfield 95, 3) := by decide +kernel
theorem dL_acts_191 : decode cL_acts 191 = .ok (.aload 8, 2) := by decide +kernel
theorem dL_acts_193 : decode cL_acts 193 = .ok (.aload 8, 2) := by decide +kernel
theorem dL_acts_195 : decode cL_acts 195 = .ok (.getfield 86, 3) := by decide +kernel
theorem dL_acts_198 : decode cL_acts 198 = .ok (.putfield 98, 3) := by decide +kernel
theorem dL_acts_201 : decode cL_acts 201 = .ok (.aload 8, 2) := by decide +kernel
theorem dL_acts_203 : decode cL_acts 203 = .ok (.iconst 0, 1) := by decide +kernel
theorem dL_acts_204 : decode cL_acts 204 = .ok (.putfield 104, 3) := by decide +kernel
theorem dL_acts_207 : decode cL_acts 207 = .ok (.aload_n 0, 1) := by decide +kernel
theorem dL_acts_208 : decode cL_acts 208 = .ok (.iload 6, 2) := by decide +kernel
theorem dL_acts_210 : decode cL_acts 210 = .ok (.invokevirtual 174, 3) := by decide +kernel
theorem dL_acts_213 : decode cL_acts 213 = .ok (.aload_n 1, 1) := by decide +kernel
theorem dL_acts_214 : decode cL_acts 214 = .ok (.getfield 141, 3) := by decide +kernel
theorem dL_acts_217 : decode cL_acts 217 = .ok (.if_icmp .ne 7, 3) := by decide +kernel
theorem dL_acts_220 : decode cL_acts 220 = .ok (.iconst 1, 1) := by decide +kernel
theorem dL_acts_221 : decode cL_acts 221 = .ok (.goto 4, 3) := by decide +kernel
theorem dL_acts_224 : decode cL_acts 224 = .ok (.iconst 0, 1) := by decide +kernel
theorem dL_acts_225 : decode cL_acts 225 = .ok (.ireturn, 1) := by decide +kernel
theorem dL_acts_226 : decode cL_acts 226 = .ok (.iload 5, 2) := by decide +kernel
theorem dL_acts_228 : decode cL_acts 228 = .ok (.bipush 9, 2) := by decide +kernel
theorem dL_acts_230 : decode cL_acts 230 = .ok (.if_icmp .ne 57, 3) := by decide +kernel
theorem dL_acts_233 : decode cL_acts 233 = .ok (.aload 8, 2) := by decide +kernel
theorem dL_acts_235 : decode cL_acts 235 = .ok (.getfield 79, 3) := by decide +kernel
theorem dL_acts_238 : decode cL_acts 238 = .ok (.istore 9, 2) := by decide +kernel
theorem dL_acts_240 : decode cL_acts 240 = .ok (.aload 8, 2) := by decide +kernel
theorem dL_acts_242 : decode cL_acts 242 = .ok (.aload 8, 2) := by decide +kernel
theorem dL_acts_244 : decode cL_acts 244 = .ok (.getfield 83, 3) := by decide +kernel
theorem dL_acts_247 : decode cL_acts 247 = .ok (.iconst 1, 1) := by decide +kernel
theorem dL_acts_248 : decode cL_acts 248 = .ok (.iadd, 1) := by decide +kernel
theorem dL_acts_249 : decode cL_acts 249 = .ok (.iconst 2, 1) := by decide +kernel
theorem dL_acts_250 : decode cL_acts 250 = .ok (.iload 4, 2) := by decide +kernel
theorem dL_acts_252 : decode cL_acts 252 = .ok (.bipush 8, 2) := by decide +kernel
theorem dL_acts_254 : decode cL_acts 254 = .ok (.idiv, 1) := by decide +kernel
theorem dL_acts_255 : decode cL_acts 255 = .ok (.bipush 20, 2) := by decide +kernel
theorem dL_acts_257 : decode cL_acts 257 = .ok (.irem, 1) := by decide +kernel
theorem dL_acts_258 : decode cL_acts 258 = .ok (.iadd, 1) := by decide +kernel
theorem dL_acts_259 : decode cL_acts 259 = .ok (.invokestatic 177, 3) := by decide +kernel
theorem dL_acts_262 : decode cL_acts 262 = .ok (.putfield 79, 3) := by decide +kernel
theorem dL_acts_265 : decode cL_acts 265 = .ok (.aload_n 0, 1) := by decide +kernel
theorem dL_acts_266 : decode cL_acts 266 = .ok (.iload 6, 2) := by decide +kernel
theorem dL_acts_268 : decode cL_acts 268 = .ok (.aload 8, 2) := by decide +kernel
theorem dL_acts_270 : decode cL_acts 270 = .ok (.getfield 79, 3) := by decide +kernel
theorem dL_acts_273 : decode cL_acts 273 = .ok (.invokevirtual 182, 3) := by decide +kernel
theorem dL_acts_276 : decode cL_acts 276 = .ok (.iload 9, 2) := by decide +kernel
theorem dL_acts_278 : decode cL_acts 278 = .ok (.if_icmp .ne 7, 3) := by decide +kernel
theorem dL_acts_281 : decode cL_acts 281 = .ok (.iconst 1, 1) := by decide +kernel
theorem dL_acts_282 : decode cL_acts 282 = .ok (.goto 4, 3) := by decide +kernel
theorem dL_acts_285 : decode cL_acts 285 = .ok (.iconst 0, 1) := by decide +kernel
theorem dL_acts_286 : decode cL_acts 286 = .ok (.ireturn, 1) := by decide +kernel
theorem dL_acts_287 : decode cL_acts 287 = .ok (.iload 5, 2) := by decide +kernel
theorem dL_acts_289 : decode cL_acts 289 = .ok (.bipush 10, 2) := by decide +kernel
theorem dL_acts_291 : decode cL_acts 291 = .ok (.if_icmp .ne 48, 3) := by decide +kernel
theorem dL_acts_294 : decode cL_acts 294 = .ok (.aload 8, 2) := by decide +kernel
theorem dL_acts_296 : decode cL_acts 296 = .ok (.getfield 83, 3) := by decide +kernel
theorem dL_acts_299 : decode cL_acts 299 = .ok (.istore 9, 2) := by decide +kernel
theorem dL_acts_301 : decode cL_acts 301 = .ok (.aload 8, 2) := by decide +kernel
theorem dL_acts_303 : decode cL_acts 303 = .ok (.iload 4, 2) := by decide +kernel
theorem dL_acts_305 : decode cL_acts 305 = .ok (.bipush 8, 2) := by decide +kernel
theorem dL_acts_307 : decode cL_acts 307 = .ok (.idiv, 1) := by decide +kernel
theorem dL_acts_308 : decode cL_acts 308 = .ok (.aload 8, 2) := by decide +kernel
theorem dL_acts_310 : decode cL_acts 310 = .ok (.getfield 79, 3) := by decide +kernel
theorem dL_acts_313 : decode cL_acts 313 = .ok (.irem, 1) := by decide +kernel
theorem dL_acts_314 : decode cL_acts 314 = .ok (.putfield 83, 3) := by decide +kernel
theorem dL_acts_317 : decode cL_acts 317 = .ok (.aload_n 0, 1) := by decide +kernel
theorem dL_acts_318 : decode cL_acts 318 = .ok (.iload 6, 2) := by decide +kernel
theorem dL_acts_320 : decode cL_acts 320 = .ok (.aload 8, 2) := by decide +kernel
theorem dL_acts_322 : decode cL_acts 322 = .ok (.getfield 83, 3) := by decide +kernel
theorem dL_acts_325 : decode cL_acts 325 = .ok (.invokevirtual 185, 3) := by decide +kernel
theorem dL_acts_328 : decode cL_acts 328 = .ok (.iload 9, 2) := by decide +kernel
theorem dL_acts_330 : decode cL_acts 330 = .ok (.if_icmp .ne 7, 3) := by decide +kernel
theorem dL_acts_333 : decode cL_acts 333 = .ok (.iconst 1, 1) := by decide +kernel
theorem dL_acts_334 : decode cL_acts 334 = .ok (.goto 4, 3) := by decide +kernel
theorem dL_acts_337 : decode cL_acts 337 = .ok (.iconst 0, 1) := by decide +kernel
theorem dL_acts_338 : decode cL_acts 338 = .ok (.ireturn, 1) := by decide +kernel
theorem dL_acts_339 : decode cL_acts 339 = .ok (.iload 5, 2) := by decide +kernel
theorem dL_acts_341 : decode cL_acts 341 = .ok (.bipush 11, 2) := by decide +kernel
theorem dL_acts_343 : decode cL_acts 343 = .ok (.if_icmp .ne 87, 3) := by decide +kernel
theorem dL_acts_346 : decode cL_acts 346 = .ok (.iconst 1, 1) := by decide +kernel
theorem dL_acts_347 : decode cL_acts 347 = .ok (.iload 4, 2) := by decide +kernel
theorem dL_acts_349 : decode cL_acts 349 = .ok (.bipush 8, 2) := by decide +kernel
theorem dL_acts_351 : decode cL_acts 351 = .ok (.idiv, 1) := by decide +kernel
theorem dL_acts_352 : decode cL_acts 352 = .ok (.sipush 200, 3) := by decide +kernel
theorem dL_acts_355 : decode cL_acts 355 = .ok (.irem, 1) := by decide +kernel
theorem dL_acts_356 : decode cL_acts 356 = .ok (.iadd, 1) := by decide +kernel
theorem dL_acts_357 : decode cL_acts 357 = .ok (.istore 9, 2) := by decide +kernel
theorem dL_acts_359 : decode cL_acts 359 = .ok (.aload 8, 2) := by decide +kernel
theorem dL_acts_361 : decode cL_acts 361 = .ok (.getfield 95, 3) := by decide +kernel
theorem dL_acts_364 : decode cL_acts 364 = .ok (.iconst 4, 1) := by decide +kernel
theorem dL_acts_365 : decode cL_acts 365 = .ok (.if_icmp .ne 9, 3) := by decide +kernel
theorem dL_acts_368 : decode cL_acts 368 = .ok (.aload 8, 2) := by decide +kernel
theorem dL_acts_370 : decode cL_acts 370 = .ok (.iconst 0, 1) := by decide +kernel
theorem dL_acts_371 : decode cL_acts 371 = .ok (.putfield 101, 3) := by decide +kernel
theorem dL_acts_374 : decode cL_acts 374 = .ok (.aload 8, 2) := by decide +kernel
theorem dL_acts_376 : decode cL_acts 376 = .ok (.getfield 95, 3) := by decide +kernel
theorem dL_acts_379 : decode cL_acts 379 = .ok (.iconst 4, 1) := by decide +kernel
theorem dL_acts_380 : decode cL_acts 380 = .ok (.if_icmp .ne 9, 3) := by decide +kernel
theorem dL_acts_383 : decode cL_acts 383 = .ok (.aload 8, 2) := by decide +kernel
theorem dL_acts_385 : decode cL_acts 385 = .ok (.iconst 0, 1) := by decide +kernel
theorem dL_acts_386 : decode cL_acts 386 = .ok (.putfield 95, 3) := by decide +kernel
theorem dL_acts_389 : decode cL_acts 389 = .ok (.aload 8, 2) := by decide +kernel
theorem dL_acts_391 : decode cL_acts 391 = .ok (.sipush 9999, 3) := by decide +kernel
theorem dL_acts_394 : decode cL_acts 394 = .ok (.aload 8, 2) := by decide +kernel
theorem dL_acts_396 : decode cL_acts 396 = .ok (.getfield 92, 3) := by decide +kernel
theorem dL_acts_399 : decode cL_acts 399 = .ok (.iload 9, 2) := by decide +kernel
theorem dL_acts_401 : decode cL_acts 401 = .ok (.iadd, 1) := by decide +kernel
theorem dL_acts_402 : decode cL_acts 402 = .ok (.invokestatic 188, 3) := by decide +kernel
theorem dL_acts_405 : decode cL_acts 405 = .ok (.putfield 92, 3) := by decide +kernel
theorem dL_acts_408 : decode cL_acts 408 = .ok (.aload_n 0, 1) := by decide +kernel
theorem dL_acts_409 : decode cL_acts 409 = .ok (.iload 6, 2) := by decide +kernel
theorem dL_acts_411 : decode cL_acts 411 = .ok (.iload 9, 2) := by decide +kernel
theorem dL_acts_413 : decode cL_acts 413 = .ok (.invokevirtual 191, 3) := by decide +kernel
theorem dL_acts_416 : decode cL_acts 416 = .ok (.aload 8, 2) := by decide +kernel
theorem dL_acts_418 : decode cL_acts 418 = .ok (.getfield 92, 3) := by decide +kernel
theorem dL_acts_421 : decode cL_acts 421 = .ok (.if_icmp .ne 7, 3) := by decide +kernel
theorem dL_acts_424 : decode cL_acts 424 = .ok (.iconst 1, 1) := by decide +kernel
theorem dL_acts_425 : decode cL_acts 425 = .ok (.goto 4, 3) := by decide +kernel
theorem dL_acts_428 : decode cL_acts 428 = .ok (.iconst 0, 1) := by decide +kernel
theorem dL_acts_429 : decode cL_acts 429 = .ok (.ireturn, 1) := by decide +kernel
theorem dL_acts_430 : decode cL_acts 430 = .ok (.iload 5, 2) := by decide +kernel
theorem dL_acts_432 : decode cL_acts 432 = .ok (.bipush 12, 2) := by decide +kernel
theorem dL_acts_434 : decode cL_acts 434 = .ok (.if_icmp .ne 7, 3) := by decide +kernel
theorem dL_acts_437 : decode cL_acts 437 = .ok (.iconst 1, 1) := by decide +kernel
theorem dL_acts_438 : decode cL_acts 438 = .ok (.goto 4, 3) := by decide +kernel
theorem dL_acts_441 : decode cL_acts 441 = .ok (.iconst 0, 1) := by decide +kernel
theorem dL_acts_442 : decode cL_acts 442 = .ok (.istore 9, 2) := by decide +kernel
theorem dL_acts_444 : decode cL_acts 444 = .ok (.iload 6, 2) := by decide +kernel
theorem dL_acts_446 : decode cL_acts 446 = .ok (.iload 7, 2) := by decide +kernel
theorem dL_acts_448 : decode cL_acts 448 = .ok (.if_icmp .ne 5, 3) := by decide +kernel
theorem dL_acts_451 : decode cL_acts 451 = .ok (.iconst 1, 1) := by decide +kernel
theorem dL_acts_452 : decode cL_acts 452 = .ok (.ireturn, 1) := by decide +kernel
theorem dL_acts_453 : decode cL_acts 453 = .ok (.aload_n 1, 1) := by decide +kernel
theorem dL_acts_454 : decode cL_acts 454 = .ok (.getfield 57, 3) := by decide +kernel
theorem dL_acts_457 : decode cL_acts 457 = .ok (.iload 6, 2) := by decide +kernel
theorem dL_acts_459 : decode cL_acts 459 = .ok (.aaload, 1) := by decide +kernel
theorem dL_acts_460 : decode cL_acts 460 = .ok (.iload 7, 2) := by decide +kernel
theorem dL_acts_462 : decode cL_acts 462 = .ok (.baload, 1) := by decide +kernel
theorem dL_acts_463 : decode cL_acts 463 = .ok (.iload 9, 2) := by decide +kernel
theorem dL_acts_465 : decode cL_acts 465 = .ok (.if_icmp .eq 7, 3) := by decide +kernel
theorem dL_acts_468 : decode cL_acts 468 = .ok (.iconst 1, 1) := by decide +kernel
theorem dL_acts_469 : decode cL_acts 469 = .ok (.goto 4, 3) := by decide +kernel
theorem dL_acts_472 : decode cL_acts 472 = .ok (.iconst 0, 1) := by decide +kernel
theorem dL_acts_473 : decode cL_acts 473 = .ok (.istore 10, 2) := by decide +kernel
theorem dL_acts_475 : decode cL_acts 475 = .ok (.aload_n 1, 1) := by decide +kernel
theorem dL_acts_476 : decode cL_acts 476 = .ok (.getfield 57, 3) := by decide +kernel
theorem dL_acts_479 : decode cL_acts 479 = .ok (.iload 6, 2) := by decide +kernel
theorem dL_acts_481 : decode cL_acts 481 = .ok (.aaload, 1) := by decide +kernel
theorem dL_acts_482 : decode cL_acts 482 = .ok (.iload 7, 2) := by decide +kernel
theorem dL_acts_484 : decode cL_acts 484 = .ok (.iload 9, 2) := by decide +kernel
theorem dL_acts_486 : decode cL_acts 486 = .ok (.bastore, 1) := by decide +kernel
theorem dL_acts_487 : decode cL_acts 487 = .ok (.aload_n 1, 1) := by decide +kernel
theorem dL_acts_488 : decode cL_acts 488 = .ok (.getfield 57, 3) := by decide +kernel
theorem dL_acts_491 : decode cL_acts 491 = .ok (.iload 7, 2) := by decide +kernel
theorem dL_acts_493 : decode cL_acts 493 = .ok (.aaload, 1) := by decide +kernel
theorem dL_acts_494 : decode cL_acts 494 = .ok (.iload 6, 2) := by decide +kernel
theorem dL_acts_496 : decode cL_acts 496 = .ok (.iload 9, 2) := by decide +kernel
theorem dL_acts_498 : decode cL_acts 498 = .ok (.bastore, 1) := by decide +kernel
theorem dL_acts_499 : decode cL_acts 499 = .ok (.aload_n 0, 1) := by decide +kernel
theorem dL_acts_500 : decode cL_acts 500 = .ok (.iload 6, 2) := by decide +kernel
theorem dL_acts_502 : decode cL_acts 502 = .ok (.iload 7, 2) := by decide +kernel
theorem dL_acts_504 : decode cL_acts 504 = .ok (.iload 9, 2) := by decide +kernel
theorem dL_acts_506 : decode cL_acts 506 = .ok (.invokevirtual 194, 3) := by decide +kernel
theorem dL_acts_509 : decode cL_acts 509 = .ok (.iload 10, 2) := by decide +kernel
theorem dL_acts_511 : decode cL_acts 511 = .ok (.if_icmp .ne 7, 3) := by decide +kernel
theorem dL_acts_514 : decode cL_acts 514 = .ok (.iconst 1, 1) := by decide +kernel
theorem dL_acts_515 : decode cL_acts 515 = .ok (.goto 4, 3) := by decide +kernel
theorem dL_acts_518 : decode cL_acts 518 = .ok (.iconst 0, 1) := by decide +kernel
theorem dL_acts_519 : decode cL_acts 519 = .ok (.ireturn, 1) := by decide +kernel
theorem dL_holds_0 : decode cL_holds 0 = .ok (.iconst 0, 1) := by decide +kernel
theorem dL_holds_1 : decode cL_holds 1 = .ok (.istore_n 1, 1) := by decide +kernel
theorem dL_holds_2 : decode cL_holds 2 = .ok (.iconst 0, 1) := by decide +kernel
theorem dL_holds_3 : decode cL_holds 3 = .ok (.istore_n 2, 1) := by decide +kernel
theorem dL_holds_4 : decode cL_holds 4 = .ok (.iconst 0, 1) := by decide +kernel
theorem dL_holds_5 : decode cL_holds 5 = .ok (.istore_n 3, 1) := by decide +kernel
theorem dL_holds_6 : decode cL_holds 6 = .ok (.iconst 0, 1) := by decide +kernel
theorem dL_holds_7 : decode cL_holds 7 = .ok (.istore 4, 2) := by decide +kernel
theorem dL_holds_9 : decode cL_holds 9 = .ok (.iload 4, 2) := by decide +kernel
theorem dL_holds_11 : decode cL_holds 11 = .ok (.aload_n 0, 1) := by decide +kernel
theorem dL_holds_12 : decode cL_holds 12 = .ok (.iconst 0, 1) := by decide +kernel
theorem dL_holds_13 : decode cL_holds 13 = .ok (.invokevirtual 158, 3) := by decide +kernel
theorem dL_holds_16 : decode cL_holds 16 = .ok (.if_icmp .ge 456, 3) := by decide +kernel
theorem dL_holds_19 : decode cL_holds 19 = .ok (.iload_n 1, 1) := by decide +kernel
theorem dL_holds_20 : decode cL_holds 20 = .ok (.aload_n 0, 1) := by decide +kernel
theorem dL_holds_21 : decode cL_holds 21 = .ok (.iload 4, 2) := by decide +kernel
theorem dL_holds_23 : decode cL_holds 23 = .ok (.bipush 11, 2) := by decide +kernel
theorem dL_holds_25 : decode cL_holds 25 = .ok (.invokevirtual 117, 3) := by decide +kernel
theorem dL_holds_28 : decode cL_holds 28 = .ok (.iadd, 1) := by decide +kernel
theorem dL_holds_29 : decode cL_holds 29 = .ok (.istore_n 1, 1) := by decide +kernel
theorem dL_holds_30 : decode cL_holds 30 = .ok (.iload_n 2, 1) := by decide +kernel
theorem dL_holds_31 : decode cL_holds 31 = .ok (.aload_n 0, 1) := by decide +kernel
theorem dL_holds_32 : decode cL_holds 32 = .ok (.iload 4, 2) := by decide +kernel
theorem dL_holds_34 : decode cL_holds 34 = .ok (.bipush 12, 2) := by decide +kernel
theorem dL_holds_36 : decode cL_holds 36 = .ok (.invokevirtual 117, 3) := by decide +kernel
theorem dL_holds_39 : decode cL_holds 39 = .ok (.iadd, 1) := by decide +kernel
theorem dL_holds_40 : decode cL_holds 40 = .ok (.istore_n 2, 1) := by decide +kernel
theorem dL_holds_41 : decode cL_holds 41 = .ok (.iload_n 3, 1) := by decide +kernel
theorem dL_holds_42 : decode cL_holds 42 = .ok (.aload_n 0, 1) := by decide +kernel
theorem dL_holds_43 : decode cL_holds 43 = .ok (.iload 4, 2) := by decide +kernel
theorem dL_holds_45 : decode cL_holds 45 = .ok (.iconst 5, 1) := by decide +kernel
theorem dL_holds_46 : decode cL_holds 46 = .ok (.invokevirtual 117, 3) := by decide +kernel
theorem dL_holds_49 : decode cL_holds 49 = .ok (.iconst 4, 1) := by decide +kernel
theorem dL_holds_50 : decode cL_holds 50 = .ok (.if_icmp .ne 7, 3) := by decide +kernel
theorem dL_holds_53 : decode cL_holds 53 = .ok (.iconst 1, 1) := by decide +kernel
theorem dL_holds_54 : decode cL_holds 54 = .ok (.goto 4, 3) := by decide +kernel
theorem dL_holds_57 : decode cL_holds 57 = .ok (.iconst 0, 1) := by decide +kernel
theorem dL_holds_58 : decode cL_holds 58 = .ok (.iadd, 1) := by decide +kernel
theorem dL_holds_59 : decode cL_holds 59 = .ok (.istore_n 3, 1) := by decide +kernel
theorem dL_holds_60 : decode cL_holds 60 = .ok (.iconst 0, 1) := by decide +kernel
theorem dL_holds_61 : decode cL_holds 61 = .ok (.istore 5, 2) := by decide +kernel
theorem dL_holds_63 : decode cL_holds 63 = .ok (.iconst 0, 1) := by decide +kernel
theorem dL_holds_64 : decode cL_holds 64 = .ok (.istore 6, 2) := by decide +kernel
theorem dL_holds_66 : decode cL_holds 66 = .ok (.iload 6, 2) := by decide +kernel
theorem dL_holds_68 : decode cL_holds 68 = .ok (.iconst 4, 1) := by decide +kernel
theorem dL_holds_69 : decode cL_holds 69 = .ok (.if_icmp .ge 22, 3) := by decide +kernel
theorem dL_holds_72 : decode cL_holds 72 = .ok (.iload 5, 2) := by decide +kernel
theorem dL_holds_74 : decode cL_holds 74 = .ok (.aload_n 0, 1) := by decide +kernel
theorem dL_holds_75 : decode cL_holds 75 = .ok (.iload 4, 2) := by decide +kernel
theorem dL_holds_77 : decode cL_holds 77 = .ok (.iload 6, 2) := by decide +kernel
theorem dL_holds_79 : decode cL_holds 79 = .ok (.invokevirtual 120, 3) := by decide +kernel
theorem dL_holds_82 : decode cL_holds 82 = .ok (.iadd, 1) := by decide +kernel
theorem dL_holds_83 : decode cL_holds 83 = .ok (.istore 5, 2) := by decide +kernel
theorem dL_holds_85 : decode cL_holds 85 = .ok (.iinc 6 1, 3) := by decide +kernel
theorem dL_holds_88 : decode cL_holds 88 = .ok (.goto (-22), 3) := by decide +kernel
theorem dL_holds_91 : decode cL_holds 91 = .ok (.iload 5, 2) := by decide +kernel
theorem dL_holds_93 : decode cL_holds 93 = .ok (.aload_n 0, 1) := by decide +kernel
theorem dL_holds_94 : decode cL_holds 94 = .ok (.iconst 2, 1) := by decide +kernel
theorem dL_holds_95 : decode cL_holds 95 = .ok (.invokevirtual 158, 3) := by decide +kernel
theorem dL_holds_98 : decode cL_holds 98 = .ok (.if_icmp .gt 64, 3) := by decide +kernel
theorem dL_holds_101 : decode cL_holds 101 = .ok (.aload_n 0, 1) := by decide +kernel
theorem dL_holds_102 : decode cL_holds 102 = .ok (.iload 4, 2) := by decide +kernel
theorem dL_holds_104 : decode cL_holds 104 = .ok (.bipush 13, 2) := by decide +kernel
theorem dL_holds_106 : decode cL_holds 106 = .ok (.invokevirtual 117, 3) := by decide +kernel
theorem dL_holds_109 : decode cL_holds 109 = .ok (.aload_n 0, 1) := by decide +kernel
theorem dL_holds_110 : decode cL_holds 110 = .ok (.iload 4, 2) := by decide +kernel
theorem dL_holds_112 : decode cL_holds 112 = .ok (.invokevirtual 128, 3) := by decide +kernel
theorem dL_holds_115 : decode cL_holds 115 = .ok (.if_icmp .gt 47, 3) := by decide +kernel
theorem dL_holds_118 : decode cL_holds 118 = .ok (.aload_n 0, 1) := by decide +kernel
theorem dL_holds_119 : decode cL_holds 119 = .ok (.iload 4, 2) := by decide +kernel
theorem dL_holds_121 : decode cL_holds 121 = .ok (.iconst 4, 1) := by decide +kernel
theorem dL_holds_122 : decode cL_holds 122 = .ok (.invokevirtual 117, 3) := by decide +kernel
theorem dL_holds_125 : decode cL_holds 125 = .ok (.ifCond .lt 37, 3) := by decide +kernel
theorem dL_holds_128 : decode cL_holds 128 = .ok (.aload_n 0, 1) := by decide +kernel
theorem dL_holds_129 : decode cL_holds 129 = .ok (.iload 4, 2) := by decide +kernel
theorem dL_holds_131 : decode cL_holds 131 = .ok (.iconst 4, 1) := by decide +kernel
theorem dL_holds_132 : decode cL_holds 132 = .ok (.invokevirtual 117, 3) := by decide +kernel
theorem dL_holds_135 : decode cL_holds 135 = .ok (.ifCond .ne 7, 3) := by decide +kernel
theorem dL_holds_138 : decode cL_holds 138 = .ok (.iconst 1, 1) := by decide +kernel
theorem dL_holds_139 : decode cL_holds 139 = .ok (.goto 4, 3) := by decide +kernel
theorem dL_holds_142 : decode cL_holds 142 = .ok (.iconst 0, 1) := by decide +kernel
theorem dL_holds_143 : decode cL_holds 143 = .ok (.aload_n 0, 1) := by decide +kernel
theorem dL_holds_144 : decode cL_holds 144 = .ok (.iload 4, 2) := by decide +kernel
theorem dL_holds_146 : decode cL_holds 146 = .ok (.iconst 5, 1) := by decide +kernel
theorem dL_holds_147 : decode cL_holds 147 = .ok (.invokevirtual 117, 3) := by decide +kernel
theorem dL_holds_150 : decode cL_holds 150 = .ok (.iconst 4, 1) := by decide +kernel
theorem dL_holds_151 : decode cL_holds 151 = .ok (.if_icmp .ne 7, 3) := by decide +kernel
theorem dL_holds_154 : decode cL_holds 154 = .ok (.iconst 1, 1) := by decide +kernel
theorem dL_holds_155 : decode cL_holds 155 = .ok (.goto 4, 3) := by decide +kernel
theorem dL_holds_158 : decode cL_holds 158 = .ok (.iconst 0, 1) := by decide +kernel
theorem dL_holds_159 : decode cL_holds 159 = .ok (.if_icmp .eq 5, 3) := by decide +kernel
theorem dL_holds_162 : decode cL_holds 162 = .ok (.iconst 0, 1) := by decide +kernel
theorem dL_holds_163 : decode cL_holds 163 = .ok (.ireturn, 1) := by decide +kernel
theorem dL_holds_164 : decode cL_holds 164 = .ok (.aload_n 0, 1) := by decide +kernel
theorem dL_holds_165 : decode cL_holds 165 = .ok (.iload 4, 2) := by decide +kernel
theorem dL_holds_167 : decode cL_holds 167 = .ok (.iconst 5, 1) := by decide +kernel
theorem dL_holds_168 : decode cL_holds 168 = .ok (.invokevirtual 117, 3) := by decide +kernel
theorem dL_holds_171 : decode cL_holds 171 = .ok (.iconst 4, 1) := by decide +kernel
theorem dL_holds_172 : decode cL_holds 172 = .ok (.if_icmp .eq 39, 3) := by decide +kernel
theorem dL_holds_175 : decode cL_holds 175 = .ok (.aload_n 0, 1) := by decide +kernel
theorem dL_holds_176 : decode cL_holds 176 = .ok (.iload 4, 2) := by decide +kernel
theorem dL_holds_178 : decode cL_holds 178 = .ok (.bipush 13, 2) := by decide +kernel
theorem dL_holds_180 : decode cL_holds 180 = .ok (.invokevirtual 117, 3) := by decide +kernel
theorem dL_holds_183 : decode cL_holds 183 = .ok (.aload_n 0, 1) := by decide +kernel
theorem dL_holds_184 : decode cL_holds 184 = .ok (.iload 4, 2) := by decide +kernel
theorem dL_holds_186 : decode cL_holds 186 = .ok (.invokevirtual 128, 3) := by decide +kernel
theorem dL_holds_189 : decode cL_holds 189 = .ok (.if_icmp .eq 22, 3) := by decide +kernel
theorem dL_holds_192 : decode cL_holds 192 = .ok (.aload_n 0, 1) := by decide +kernel
theorem dL_holds_193 : decode cL_holds 193 = .ok (.iload 4, 2) := by decide +kernel
theorem dL_holds_195 : decode cL_holds 195 = .ok (.bipush 13, 2) := by decide +kernel
theorem dL_holds_197 : decode cL_holds 197 = .ok (.invokevirtual 117, 3) := by decide +kernel
theorem dL_holds_200 : decode cL_holds 200 = .ok (.aload_n 0, 1) := by decide +kernel
theorem dL_holds_201 : decode cL_holds 201 = .ok (.iload 4, 2) := by decide +kernel
theorem dL_holds_203 : decode cL_holds 203 = .ok (.invokevirtual 128, 3) := by decide +kernel
theorem dL_holds_206 : decode cL_holds 206 = .ok (.if_icmp .le 5, 3) := by decide +kernel
theorem dL_holds_209 : decode cL_holds 209 = .ok (.iconst 0, 1) := by decide +kernel
theorem dL_holds_210 : decode cL_holds 210 = .ok (.ireturn, 1) := by decide +kernel
theorem dL_holds_211 : decode cL_holds 211 = .ok (.aload_n 0, 1) := by decide +kernel
theorem dL_holds_212 : decode cL_holds 212 = .ok (.iload 4, 2) := by decide +kernel
theorem dL_holds_214 : decode cL_holds 214 = .ok (.iconst 5, 1) := by decide +kernel
theorem dL_holds_215 : decode cL_holds 215 = .ok (.invokevirtual 117, 3) := by decide +kernel
theorem dL_holds_218 : decode cL_holds 218 = .ok (.ifCond .eq 14, 3) := by decide +kernel
theorem dL_holds_221 : decode cL_holds 221 = .ok (.aload_n 0, 1) := by decide +kernel
theorem dL_holds_222 : decode cL_holds 222 = .ok (.iload 4, 2) := by decide +kernel
theorem dL_holds_224 : decode cL_holds 224 = .ok (.iconst 5, 1) := by decide +kernel
theorem dL_holds_225 : decode cL_holds 225 = .ok (.invokevirtual 117, 3) := by decide +kernel
theorem dL_holds_228 : decode cL_holds 228 = .ok (.iconst 4, 1) := by decide +kernel
theorem dL_holds_229 : decode cL_holds 229 = .ok (.if_icmp .ne 7, 3) := by decide +kernel
theorem dL_holds_232 : decode cL_holds 232 = .ok (.iconst 1, 1) := by decide +kernel
theorem dL_holds_233 : decode cL_holds 233 = .ok (.goto 4, 3) := by decide +kernel
theorem dL_holds_236 : decode cL_holds 236 = .ok (.iconst 0, 1) := by decide +kernel
theorem dL_holds_237 : decode cL_holds 237 = .ok (.istore 6, 2) := by decide +kernel
theorem dL_holds_239 : decode cL_holds 239 = .ok (.iload 6, 2) := by decide +kernel
theorem dL_holds_241 : decode cL_holds 241 = .ok (.aload_n 0, 1) := by decide +kernel
theorem dL_holds_242 : decode cL_holds 242 = .ok (.iload 4, 2) := by decide +kernel
theorem dL_holds_244 : decode cL_holds 244 = .ok (.bipush 6, 2) := by decide +kernel
theorem dL_holds_246 : decode cL_holds 246 = .ok (.invokevirtual 117, 3) := by decide +kernel
theorem dL_holds_249 : decode cL_holds 249 = .ok (.ifCond .ne 7, 3) := by decide +kernel
theorem dL_holds_252 : decode cL_holds 252 = .ok (.iconst 1, 1) := by decide +kernel
theorem dL_holds_253 : decode cL_holds 253 = .ok (.goto 4, 3) := by decide +kernel
theorem dL_holds_256 : decode cL_holds 256 = .ok (.iconst 0, 1) := by decide +kernel
theorem dL_holds_257 : decode cL_holds 257 = .ok (.if_icmp .ne 48, 3) := by decide +kernel
theorem dL_holds_260 : decode cL_holds 260 = .ok (.aload_n 0, 1) := by decide +kernel
theorem dL_holds_261 : decode cL_holds 261 = .ok (.iload 4, 2) := by decide +kernel
theorem dL_holds_263 : decode cL_holds 263 = .ok (.bipush 7, 2) := by decide +kernel
theorem dL_holds_265 : decode cL_holds 265 = .ok (.invokevirtual 117, 3) := by decide +kernel
theorem dL_holds_268 : decode cL_holds 268 = .ok (.bipush 8, 2) := by decide +kernel
theorem dL_holds_270 : decode cL_holds 270 = .ok (.if_icmp .gt 35, 3) := by decide +kernel
theorem dL_holds_273 : decode cL_holds 273 = .ok (.aload_n 0, 1) := by decide +kernel
theorem dL_holds_274 : decode cL_holds 274 = .ok (.iload 4, 2) := by decide +kernel
theorem dL_holds_276 : decode cL_holds 276 = .ok (.invokevirtual 135, 3) := by decide +kernel
theorem dL_holds_279 : decode cL_holds 279 = .ok (.iconst 1, 1) := by decide +kernel
theorem dL_holds_280 : decode cL_holds 280 = .ok (.if_icmp .lt 25, 3) := by decide +kernel
theorem dL_holds_283 : decode cL_holds 283 = .ok (.aload_n 0, 1) := by decide +kernel
theorem dL_holds_284 : decode cL_holds 284 = .ok (.iload 4, 2) := by decide +kernel
theorem dL_holds_286 : decode cL_holds 286 = .ok (.iload 4, 2) := by decide +kernel
theorem dL_holds_288 : decode cL_holds 288 = .ok (.invokevirtual 78, 3) := by decide +kernel
theorem dL_holds_291 : decode cL_holds 291 = .ok (.ifCond .ne 14, 3) := by decide +kernel
theorem dL_holds_294 : decode cL_holds 294 = .ok (.aload_n 0, 1) := by decide +kernel
theorem dL_holds_295 : decode cL_holds 295 = .ok (.iload 4, 2) := by decide +kernel
theorem dL_holds_297 : decode cL_holds 297 = .ok (.iload 4, 2) := by decide +kernel
theorem dL_holds_299 : decode cL_holds 299 = .ok (.invokevirtual 198, 3) := by decide +kernel
theorem dL_holds_302 : decode cL_holds 302 = .ok (.ifCond .eq 5, 3) := by decide +kernel
theorem dL_holds_305 : decode cL_holds 305 = .ok (.iconst 0, 1) := by decide +kernel
theorem dL_holds_306 : decode cL_holds 306 = .ok (.ireturn, 1) := by decide +kernel
theorem dL_holds_307 : decode cL_holds 307 = .ok (.iconst 0, 1) := by decide +kernel
theorem dL_holds_308 : decode cL_holds 308 = .ok (.istore 7, 2) := by decide +kernel
theorem dL_holds_310 : decode cL_holds 310 = .ok (.iload 7, 2) := by decide +kernel
theorem dL_holds_312 : decode cL_holds 312 = .ok (.aload_n 0, 1) := by decide +kernel
theorem dL_holds_313 : decode cL_holds 313 = .ok (.iconst 0, 1) := by decide +kernel
theorem dL_holds_314 : decode cL_holds 314 = .ok (.invokevirtual 158, 3) := by decide +kernel
theorem dL_holds_317 : decode cL_holds 317 = .ok (.if_icmp .ge 149, 3) := by decide +kernel
theorem dL_holds_320 : decode cL_holds 320 = .ok (.aload_n 0, 1) := by decide +kernel
theorem dL_holds_321 : decode cL_holds 321 = .ok (.iload 4, 2) := by decide +kernel
theorem dL_holds_323 : decode cL_holds 323 = .ok (.iload 7, 2) := by decide +kernel
theorem dL_holds_325 : decode cL_holds 325 = .ok (.invokevirtual 65, 3) := by decide +kernel
theorem dL_holds_328 : decode cL_holds 328 = .ok (.istore 8, 2) := by decide +kernel
theorem dL_holds_330 : decode cL_holds 330 = .ok (.iload 8, 2) := by decide +kernel
theorem dL_holds_332 : decode cL_holds 332 = .ok (.aload_n 0, 1) := by decide +kernel
theorem dL_holds_333 : decode cL_holds 333 = .ok (.iconst 2, 1) := by decide +kernel
theorem dL_holds_334 : decode cL_holds 334 = .ok (.invokevirtual 158, 3) := by decide +kernel
theorem dL_holds_337 : decode cL_holds 337 = .ok (.if_icmp .gt 40, 3) := by decide +kernel
theorem dL_holds_340 : decode cL_holds 340 = .ok (.aload_n 0, 1) := by decide +kernel
theorem dL_holds_341 : decode cL_holds 341 = .ok (.iload 4, 2) := by decide +kernel
theorem dL_holds_343 : decode cL_holds 343 = .ok (.iload 7, 2) := by decide +kernel
theorem dL_holds_345 : decode cL_holds 345 = .ok (.invokevirtual 78, 3) := by decide +kernel
theorem dL_holds_348 : decode cL_holds 348 = .ok (.iload 8, 2) := by decide +kernel
theorem dL_holds_350 : decode cL_holds 350 = .ok (.ifCond .lt 23, 3) := by decide +kernel
theorem dL_holds_353 : decode cL_holds 353 = .ok (.aload_n 0, 1) := by decide +kernel
theorem dL_holds_354 : decode cL_holds 354 = .ok (.iconst 2, 1) := by decide +kernel
theorem dL_holds_355 : decode cL_holds 355 = .ok (.invokevirtual 158, 3) := by decide +kernel
theorem dL_holds_358 : decode cL_holds 358 = .ok (.iload 8, 2) := by decide +kernel
theorem dL_holds_360 : decode cL_holds 360 = .ok (.isub, 1) := by decide +kernel
theorem dL_holds_361 : decode cL_holds 361 = .ok (.aload_n 0, 1) := by decide +kernel
theorem dL_holds_362 : decode cL_holds 362 = .ok (.iconst 4, 1) := by decide +kernel
theorem dL_holds_363 : decode cL_holds 363 = .ok (.invokevirtual 158, 3) := by decide +kernel
theorem dL_holds_366 : decode cL_holds 366 = .ok (.if_icmp .gt 7, 3) := by decide +kernel
theorem dL_holds_369 : decode cL_holds 369 = .ok (.iconst 1, 1) := by decide +kernel
theorem dL_holds_370 : decode cL_holds 370 = .ok (.goto 4, 3) := by decide +kernel
theorem dL_holds_373 : decode cL_holds 373 = .ok (.iconst 0, 1) := by decide +kernel
theorem dL_holds_374 : decode cL_holds 374 = .ok (.if_icmp .eq 5, 3) := by decide +kernel
theorem dL_holds_377 : decode cL_holds 377 = .ok (.iconst 0, 1) := by decide +kernel
theorem dL_holds_378 : decode cL_holds 378 = .ok (.ireturn, 1) := by decide +kernel
theorem dL_holds_379 : decode cL_holds 379 = .ok (.aload_n 0, 1) := by decide +kernel
theorem dL_holds_380 : decode cL_holds 380 = .ok (.iload 4, 2) := by decide +kernel
theorem dL_holds_382 : decode cL_holds 382 = .ok (.iload 7, 2) := by decide +kernel
theorem dL_holds_384 : decode cL_holds 384 = .ok (.invokevirtual 198, 3) := by decide +kernel
theorem dL_holds_387 : decode cL_holds 387 = .ok (.aload_n 0, 1) := by decide +kernel
theorem dL_holds_388 : decode cL_holds 388 = .ok (.iload 7, 2) := by decide +kernel
theorem dL_holds_390 : decode cL_holds 390 = .ok (.iload 4, 2) := by decide +kernel
theorem dL_holds_392 : decode cL_holds 392 = .ok (.invokevirtual 198, 3) := by decide +kernel
theorem dL_holds_395 : decode cL_holds 395 = .ok (.if_icmp .ne 32, 3) := by decide +kernel
theorem dL_holds_398 : decode cL_holds 398 = .ok (.aload_n 0, 1) := by decide +kernel
theorem dL_holds_399 : decode cL_holds 399 = .ok (.iload 4, 2) := by decide +kernel
theorem dL_holds_401 : decode cL_holds 401 = .ok (.bipush 9, 2) := by decide +kernel
theorem dL_holds_403 : decode cL_holds 403 = .ok (.invokevirtual 117, 3) := by decide +kernel
theorem dL_holds_406 : decode cL_holds 406 = .ok (.iload 7, 2) := by decide +kernel
theorem dL_holds_408 : decode cL_holds 408 = .ok (.ishr, 1) := by decide +kernel
theorem dL_holds_409 : decode cL_holds 409 = .ok (.iconst 1, 1) := by decide +kernel
theorem dL_holds_410 : decode cL_holds 410 = .ok (.iand, 1) := by decide +kernel
theorem dL_holds_411 : decode cL_holds 411 = .ok (.aload_n 0, 1) := by decide +kernel
theorem dL_holds_412 : decode cL_holds 412 = .ok (.iload 7, 2) := by decide +kernel
theorem dL_holds_414 : decode cL_holds 414 = .ok (.bipush 9, 2) := by decide +kernel
theorem dL_holds_416 : decode cL_holds 416 = .ok (.invokevirtual 117, 3) := by decide +kernel
theorem dL_holds_419 : decode cL_holds 419 = .ok (.iload 4, 2) := by decide +kernel
theorem dL_holds_421 : decode cL_holds 421 = .ok (.ishr, 1) := by decide +kernel
theorem dL_holds_422 : decode cL_holds 422 = .ok (.iconst 1, 1) := by decide +kernel
theorem dL_holds_423 : decode cL_holds 423 = .ok (.iand, 1) := by decide +kernel
theorem dL_holds_424 : decode cL_holds 424 = .ok (.if_icmp .eq 5, 3) := by decide +kernel
theorem dL_holds_427 : decode cL_holds 427 = .ok (.iconst 0, 1) := by decide +kernel
theorem dL_holds_428 : decode cL_holds 428 = .ok (.ireturn, 1) := by decide +kernel
theorem dL_holds_429 : decode cL_holds 429 = .ok (.iload 4, 2) := by decide +kernel
theorem dL_holds_431 : decode cL_holds 431 = .ok (.iload 7, 2) := by decide +kernel
theorem dL_holds_433 : decode cL_holds 433 = .ok (.if_icmp .eq 27, 3) := by decide +kernel
theorem dL_holds_436 : decode cL_holds 436 = .ok (.aload_n 0, 1) := by decide +kernel
theorem dL_holds_437 : decode cL_holds 437 = .ok (.iload 4, 2) := by decide +kernel
theorem dL_holds_439 : decode cL_holds 439 = .ok (.iload 7, 2) := by decide +kernel
theorem dL_holds_441 : decode cL_holds 441 = .ok (.invokevirtual 72, 3) := by decide +kernel
theorem dL_holds_444 : decode cL_holds 444 = .ok (.ifCond .ne 16, 3) := by decide +kernel
theorem dL_holds_447 : decode cL_holds 447 = .ok (.aload_n 0, 1) := by decide +kernel
theorem dL_holds_448 : decode cL_holds 448 = .ok (.iload 7, 2) := by decide +kernel
theorem dL_holds_450 : decode cL_holds 450 = .ok (.iload 4, 2) := by decide +kernel
theorem dL_holds_452 : decode cL_holds 452 = .ok (.invokevirtual 65, 3) := by decide +kernel
theorem dL_holds_455 : decode cL_holds 455 = .ok (.ifCond .ge 5, 3) := by decide +kernel
theorem dL_holds_458 : decode cL_holds 458 = .ok (.iconst 0, 1) := by decide +kernel
theorem dL_holds_459 : decode cL_holds 459 = .ok (.ireturn, 1) := by decide +kernel
theorem dL_holds_460 : decode cL_holds 460 = .ok (.iinc 7 1, 3) := by decide +kernel
theorem dL_holds_463 : decode cL_holds 463 = .ok (.goto (-153), 3) := by decide +kernel
theorem dL_holds_466 : decode cL_holds 466 = .ok (.iinc 4 1, 3) := by decide +kernel
theorem dL_holds_469 : decode cL_holds 469 = .ok (.goto (-460), 3) := by decide +kernel
theorem dL_holds_472 : decode cL_holds 472 = .ok (.iload_n 1, 1) := by decide +kernel
theorem dL_holds_473 : decode cL_holds 473 = .ok (.aload_n 0, 1) := by decide +kernel
theorem dL_holds_474 : decode cL_holds 474 = .ok (.iconst 5, 1) := by decide +kernel
theorem dL_holds_475 : decode cL_holds 475 = .ok (.invokevirtual 158, 3) := by decide +kernel
theorem dL_holds_478 : decode cL_holds 478 = .ok (.if_icmp .ne 27, 3) := by decide +kernel
theorem dL_holds_481 : decode cL_holds 481 = .ok (.iload_n 2, 1) := by decide +kernel
theorem dL_holds_482 : decode cL_holds 482 = .ok (.aload_n 0, 1) := by decide +kernel
theorem dL_holds_483 : decode cL_holds 483 = .ok (.bipush 6, 2) := by decide +kernel
theorem dL_holds_485 : decode cL_holds 485 = .ok (.invokevirtual 158, 3) := by decide +kernel
theorem dL_holds_488 : decode cL_holds 488 = .ok (.if_icmp .ne 17, 3) := by decide +kernel
theorem dL_holds_491 : decode cL_holds 491 = .ok (.iload_n 3, 1) := by decide +kernel
theorem dL_holds_492 : decode cL_holds 492 = .ok (.aload_n 0, 1) := by decide +kernel
theorem dL_holds_493 : decode cL_holds 493 = .ok (.bipush 8, 2) := by decide +kernel
theorem dL_holds_495 : decode cL_holds 495 = .ok (.invokevirtual 158, 3) := by decide +kernel
theorem dL_holds_498 : decode cL_holds 498 = .ok (.if_icmp .ne 7, 3) := by decide +kernel
theorem dL_holds_501 : decode cL_holds 501 = .ok (.iconst 1, 1) := by decide +kernel
theorem dL_holds_502 : decode cL_holds 502 = .ok (.goto 4, 3) := by decide +kernel
theorem dL_holds_505 : decode cL_holds 505 = .ok (.iconst 0, 1) := by decide +kernel
theorem dL_holds_506 : decode cL_holds 506 = .ok (.ireturn, 1) := by decide +kernel
theorem dL_comes_0 : decode cL_comes 0 = .ok (.iconst 0, 1) := by decide +kernel
theorem dL_comes_1 : decode cL_comes 1 = .ok (.istore_n 3, 1) := by decide +kernel
theorem dL_comes_2 : decode cL_comes 2 = .ok (.aload_n 0, 1) := by decide +kernel
theorem dL_comes_3 : decode cL_comes 3 = .ok (.iload_n 2, 1) := by decide +kernel
theorem dL_comes_4 : decode cL_comes 4 = .ok (.invokevirtual 201, 3) := by decide +kernel
theorem dL_comes_7 : decode cL_comes 7 = .ok (.istore 4, 2) := by decide +kernel
theorem dL_comes_9 : decode cL_comes 9 = .ok (.aload_n 0, 1) := by decide +kernel
theorem dL_comes_10 : decode cL_comes 10 = .ok (.iload_n 2, 1) := by decide +kernel
theorem dL_comes_11 : decode cL_comes 11 = .ok (.bipush 11, 2) := by decide +kernel
theorem dL_comes_13 : decode cL_comes 13 = .ok (.invokevirtual 117, 3) := by decide +kernel
theorem dL_comes_16 : decode cL_comes 16 = .ok (.istore 5, 2) := by decide +kernel
theorem dL_comes_18 : decode cL_comes 18 = .ok (.iload 4, 2) := by decide +kernel
theorem dL_comes_20 : decode cL_comes 20 = .ok (.ifCond .le 84, 3) := by decide +kernel
theorem dL_comes_23 : decode cL_comes 23 = .ok (.iload 4, 2) := by decide +kernel
theorem dL_comes_25 : decode cL_comes 25 = .ok (.bipush 100, 2) := by decide +kernel
theorem dL_comes_27 : decode cL_comes 27 = .ok (.if_icmp .ge 77, 3) := by decide +kernel
theorem dL_comes_30 : decode cL_comes 30 = .ok (.iload 4, 2) := by decide +kernel
theorem dL_comes_32 : decode cL_comes 32 = .ok (.iconst 1, 1) := by decide +kernel
theorem dL_comes_33 : decode cL_comes 33 = .ok (.if_icmp .le 30, 3) := by decide +kernel
theorem dL_comes_36 : decode cL_comes 36 = .ok (.aload_n 0, 1) := by decide +kernel
theorem dL_comes_37 : decode cL_comes 37 = .ok (.iload 4, 2) := by decide +kernel
theorem dL_comes_39 : decode cL_comes 39 = .ok (.iconst 1, 1) := by decide +kernel
theorem dL_comes_40 : decode cL_comes 40 = .ok (.isub, 1) := by decide +kernel
theorem dL_comes_41 : decode cL_comes 41 = .ok (.invokevirtual 166, 3) := by decide +kernel
theorem dL_comes_44 : decode cL_comes 44 = .ok (.istore 6, 2) := by decide +kernel
theorem dL_comes_46 : decode cL_comes 46 = .ok (.iinc 3 1, 3) := by decide +kernel
theorem dL_comes_49 : decode cL_comes 49 = .ok (.aload_n 0, 1) := by decide +kernel
theorem dL_comes_50 : decode cL_comes 50 = .ok (.iload_n 2, 1) := by decide +kernel
theorem dL_comes_51 : decode cL_comes 51 = .ok (.bipush 11, 2) := by decide +kernel
theorem dL_comes_53 : decode cL_comes 53 = .ok (.invokevirtual 117, 3) := by decide +kernel
theorem dL_comes_56 : decode cL_comes 56 = .ok (.iload 5, 2) := by decide +kernel
theorem dL_comes_58 : decode cL_comes 58 = .ok (.if_icmp .eq 5, 3) := by decide +kernel
theorem dL_comes_61 : decode cL_comes 61 = .ok (.iconst 0, 1) := by decide +kernel
theorem dL_comes_62 : decode cL_comes 62 = .ok (.ireturn, 1) := by decide +kernel
theorem dL_comes_63 : decode cL_comes 63 = .ok (.aload_n 0, 1) := by decide +kernel
theorem dL_comes_64 : decode cL_comes 64 = .ok (.iconst 1, 1) := by decide +kernel
theorem dL_comes_65 : decode cL_comes 65 = .ok (.invokevirtual 166, 3) := by decide +kernel
theorem dL_comes_68 : decode cL_comes 68 = .ok (.istore 6, 2) := by decide +kernel
theorem dL_comes_70 : decode cL_comes 70 = .ok (.iinc 3 1, 3) := by decide +kernel
theorem dL_comes_73 : decode cL_comes 73 = .ok (.iload 6, 2) := by decide +kernel
theorem dL_comes_75 : decode cL_comes 75 = .ok (.iconst 1, 1) := by decide +kernel
theorem dL_comes_76 : decode cL_comes 76 = .ok (.if_icmp .lt 26, 3) := by decide +kernel
theorem dL_comes_79 : decode cL_comes 79 = .ok (.aload_n 0, 1) := by decide +kernel
theorem dL_comes_80 : decode cL_comes 80 = .ok (.iload_n 2, 1) := by decide +kernel
theorem dL_comes_81 : decode cL_comes 81 = .ok (.bipush 11, 2) := by decide +kernel
theorem dL_comes_83 : decode cL_comes 83 = .ok (.invokevirtual 117, 3) := by decide +kernel
theorem dL_comes_86 : decode cL_comes 86 = .ok (.iload 5, 2) := by decide +kernel
theorem dL_comes_88 : decode cL_comes 88 = .ok (.iconst 1, 1) := by decide +kernel
theorem dL_comes_89 : decode cL_comes 89 = .ok (.iadd, 1) := by decide +kernel
theorem dL_comes_90 : decode cL_comes 90 = .ok (.if_icmp .ne 12, 3) := by decide +kernel
theorem dL_comes_93 : decode cL_comes 93 = .ok (.aload_n 0, 1) := by decide +kernel
theorem dL_comes_94 : decode cL_comes 94 = .ok (.iload_n 2, 1) := by decide +kernel
theorem dL_comes_95 : decode cL_comes 95 = .ok (.iconst 5, 1) := by decide +kernel
theorem dL_comes_96 : decode cL_comes 96 = .ok (.invokevirtual 117, 3) := by decide +kernel
theorem dL_comes_99 : decode cL_comes 99 = .ok (.ifCond .eq 5, 3) := by decide +kernel
theorem dL_comes_102 : decode cL_comes 102 = .ok (.iconst 0, 1) := by decide +kernel
theorem dL_comes_103 : decode cL_comes 103 = .ok (.ireturn, 1) := by decide +kernel
theorem dL_comes_104 : decode cL_comes 104 = .ok (.iload_n 3, 1) := by decide +kernel
theorem dL_comes_105 : decode cL_comes 105 = .ok (.ifCond .le 18, 3) := by decide +kernel
theorem dL_comes_108 : decode cL_comes 108 = .ok (.aload_n 0, 1) := by decide +kernel
theorem dL_comes_109 : decode cL_comes 109 = .ok (.invokevirtual 204, 3) := by decide +kernel
theorem dL_comes_112 : decode cL_comes 112 = .ok (.ifCond .ge 5, 3) := by decide +kernel
theorem dL_comes_115 : decode cL_comes 115 = .ok (.iconst 0, 1) := by decide +kernel
theorem dL_comes_116 : decode cL_comes 116 = .ok (.ireturn, 1) := by decide +kernel
theorem dL_comes_117 : decode cL_comes 117 = .ok (.iinc 3 (-1), 3) := by decide +kernel
theorem dL_comes_120 : decode cL_comes 120 = .ok (.goto (-16), 3) := by decide +kernel
theorem dL_comes_123 : decode cL_comes 123 = .ok (.aload_n 0, 1) := by decide +kernel
theorem dL_comes_124 : decode cL_comes 124 = .ok (.iload_n 2, 1) := by decide +kernel
theorem dL_comes_125 : decode cL_comes 125 = .ok (.invokevirtual 135, 3) := by decide +kernel
theorem dL_comes_128 : decode cL_comes 128 = .ok (.istore 6, 2) := by decide +kernel
theorem dL_comes_130 : decode cL_comes 130 = .ok (.aload_n 0, 1) := by decide +kernel
theorem dL_comes_131 : decode cL_comes 131 = .ok (.iload_n 2, 1) := by decide +kernel
theorem dL_comes_132 : decode cL_comes 132 = .ok (.bipush 7, 2) := by decide +kernel
theorem dL_comes_134 : decode cL_comes 134 = .ok (.invokevirtual 207, 3) := by decide +kernel
theorem dL_comes_137 : decode cL_comes 137 = .ok (.istore 7, 2) := by decide +kernel
theorem dL_comes_139 : decode cL_comes 139 = .ok (.aload_n 0, 1) := by decide +kernel
theorem dL_comes_140 : decode cL_comes 140 = .ok (.iload_n 2, 1) := by decide +kernel
theorem dL_comes_141 : decode cL_comes 141 = .ok (.bipush 7, 2) := by decide +kernel
theorem dL_comes_143 : decode cL_comes 143 = .ok (.invokevirtual 210, 3) := by decide +kernel
theorem dL_comes_146 : decode cL_comes 146 = .ok (.istore 8, 2) := by decide +kernel
theorem dL_comes_148 : decode cL_comes 148 = .ok (.aload_n 0, 1) := by decide +kernel
theorem dL_comes_149 : decode cL_comes 149 = .ok (.bipush 7, 2) := by decide +kernel
theorem dL_comes_151 : decode cL_comes 151 = .ok (.invokevirtual 213, 3) := by decide +kernel
theorem dL_comes_154 : decode cL_comes 154 = .ok (.istore 9, 2) := by decide +kernel
theorem dL_comes_156 : decode cL_comes 156 = .ok (.aload_n 0, 1) := by decide +kernel
theorem dL_comes_157 : decode cL_comes 157 = .ok (.bipush 7, 2) := by decide +kernel
theorem dL_comes_159 : decode cL_comes 159 = .ok (.invokevirtual 158, 3) := by decide +kernel
theorem dL_comes_162 : decode cL_comes 162 = .ok (.istore 10, 2) := by decide +kernel
theorem dL_comes_164 : decode cL_comes 164 = .ok (.aload_n 0, 1) := by decide +kernel
theorem dL_comes_165 : decode cL_comes 165 = .ok (.bipush 7, 2) := by decide +kernel
theorem dL_comes_167 : decode cL_comes 167 = .ok (.invokevirtual 166, 3) := by decide +kernel
theorem dL_comes_170 : decode cL_comes 170 = .ok (.istore 11, 2) := by decide +kernel
theorem dL_comes_172 : decode cL_comes 172 = .ok (.aload_n 0, 1) := by decide +kernel
theorem dL_comes_173 : decode cL_comes 173 = .ok (.iload_n 2, 1) := by decide +kernel
theorem dL_comes_174 : decode cL_comes 174 = .ok (.iconst 5, 1) := by decide +kernel
theorem dL_comes_175 : decode cL_comes 175 = .ok (.invokevirtual 117, 3) := by decide +kernel
theorem dL_comes_178 : decode cL_comes 178 = .ok (.iload 7, 2) := by decide +kernel
theorem dL_comes_180 : decode cL_comes 180 = .ok (.if_icmp .ne 48, 3) := by decide +kernel
theorem dL_comes_183 : decode cL_comes 183 = .ok (.aload_n 0, 1) := by decide +kernel
theorem dL_comes_184 : decode cL_comes 184 = .ok (.iload_n 2, 1) := by decide +kernel
theorem dL_comes_185 : decode cL_comes 185 = .ok (.iconst 4, 1) := by decide +kernel
theorem dL_comes_186 : decode cL_comes 186 = .ok (.invokevirtual 117, 3) := by decide +kernel
theorem dL_comes_189 : decode cL_comes 189 = .ok (.iload 8, 2) := by decide +kernel
theorem dL_comes_191 : decode cL_comes 191 = .ok (.if_icmp .ne 37, 3) := by decide +kernel
theorem dL_comes_194 : decode cL_comes 194 = .ok (.aload_n 0, 1) := by decide +kernel
theorem dL_comes_195 : decode cL_comes 195 = .ok (.bipush 7, 2) := by decide +kernel
theorem dL_comes_197 : decode cL_comes 197 = .ok (.invokevirtual 158, 3) := by decide +kernel
theorem dL_comes_200 : decode cL_comes 200 = .ok (.iload 10, 2) := by decide +kernel
theorem dL_comes_202 : decode cL_comes 202 = .ok (.iload 9, 2) := by decide +kernel
theorem dL_comes_204 : decode cL_comes 204 = .ok (.iadd, 1) := by decide +kernel
theorem dL_comes_205 : decode cL_comes 205 = .ok (.if_icmp .ne 23, 3) := by decide +kernel
theorem dL_comes_208 : decode cL_comes 208 = .ok (.iload 6, 2) := by decide +kernel
theorem dL_comes_210 : decode cL_comes 210 = .ok (.bipush 7, 2) := by decide +kernel
theorem dL_comes_212 : decode cL_comes 212 = .ok (.if_icmp .le 18, 3) := by decide +kernel
theorem dL_comes_215 : decode cL_comes 215 = .ok (.aload_n 0, 1) := by decide +kernel
theorem dL_comes_216 : decode cL_comes 216 = .ok (.iload_n 2, 1) := by decide +kernel
theorem dL_comes_217 : decode cL_comes 217 = .ok (.invokevirtual 135, 3) := by decide +kernel
theorem dL_comes_220 : decode cL_comes 220 = .ok (.iload 6, 2) := by decide +kernel
theorem dL_comes_222 : decode cL_comes 222 = .ok (.bipush 7, 2) := by decide +kernel
theorem dL_comes_224 : decode cL_comes 224 = .ok (.isub, 1) := by decide +kernel
theorem dL_comes_225 : decode cL_comes 225 = .ok (.if_icmp .eq 5, 3) := by decide +kernel
theorem dL_comes_228 : decode cL_comes 228 = .ok (.iconst 0, 1) := by decide +kernel
theorem dL_comes_229 : decode cL_comes 229 = .ok (.ireturn, 1) := by decide +kernel
theorem dL_comes_230 : decode cL_comes 230 = .ok (.aload_n 0, 1) := by decide +kernel
theorem dL_comes_231 : decode cL_comes 231 = .ok (.invokevirtual 204, 3) := by decide +kernel
theorem dL_comes_234 : decode cL_comes 234 = .ok (.ifCond .lt 15, 3) := by decide +kernel
theorem dL_comes_237 : decode cL_comes 237 = .ok (.aload_n 0, 1) := by decide +kernel
theorem dL_comes_238 : decode cL_comes 238 = .ok (.aload_n 1, 1) := by decide +kernel
theorem dL_comes_239 : decode cL_comes 239 = .ok (.invokestatic 216, 3) := by decide +kernel
theorem dL_comes_242 : decode cL_comes 242 = .ok (.ifCond .eq 7, 3) := by decide +kernel
theorem dL_comes_245 : decode cL_comes 245 = .ok (.iconst 1, 1) := by decide +kernel
theorem dL_comes_246 : decode cL_comes 246 = .ok (.goto 4, 3) := by decide +kernel
theorem dL_comes_249 : decode cL_comes 249 = .ok (.iconst 0, 1) := by decide +kernel
theorem dL_comes_250 : decode cL_comes 250 = .ok (.ireturn, 1) := by decide +kernel
theorem dL_law_0 : decode cL_law 0 = .ok (.aload_n 0, 1) := by decide +kernel
theorem dL_law_1 : decode cL_law 1 = .ok (.invokestatic 220, 3) := by decide +kernel
theorem dL_law_4 : decode cL_law 4 = .ok (.astore_n 1, 1) := by decide +kernel
theorem dL_law_5 : decode cL_law 5 = .ok (.new 27, 3) := by decide +kernel
theorem dL_law_8 : decode cL_law 8 = .ok (.dup, 1) := by decide +kernel
theorem dL_law_9 : decode cL_law 9 = .ok (.invokespecial 224, 3) := by decide +kernel
theorem dL_law_12 : decode cL_law 12 = .ok (.astore_n 2, 1) := by decide +kernel
theorem dL_law_13 : decode cL_law 13 = .ok (.aload_n 2, 1) := by decide +kernel
theorem dL_law_14 : decode cL_law 14 = .ok (.aload_n 1, 1) := by decide +kernel
theorem dL_law_15 : decode cL_law 15 = .ok (.getfield 225, 3) := by decide +kernel
theorem dL_law_18 : decode cL_law 18 = .ok (.invokestatic 229, 3) := by decide +kernel
theorem dL_law_21 : decode cL_law 21 = .ok (.ifCond .eq 19, 3) := by decide +kernel
theorem dL_law_24 : decode cL_law 24 = .ok (.aload_n 2, 1) := by decide +kernel
theorem dL_law_25 : decode cL_law 25 = .ok (.invokevirtual 233, 3) := by decide +kernel
theorem dL_law_28 : decode cL_law 28 = .ok (.aload_n 1, 1) := by decide +kernel
theorem dL_law_29 : decode cL_law 29 = .ok (.getfield 40, 3) := by decide +kernel
theorem dL_law_32 : decode cL_law 32 = .ok (.invokeinterface 46 1, 5) := by decide +kernel
theorem dL_law_37 : decode cL_law 37 = .ok (.if_icmp .eq 5, 3) := by decide +kernel
theorem dL_law_40 : decode cL_law 40 = .ok (.iconst 0, 1) := by decide +kernel
theorem dL_law_41 : decode cL_law 41 = .ok (.ireturn, 1) := by decide +kernel
theorem dL_law_42 : decode cL_law 42 = .ok (.iconst 0, 1) := by decide +kernel
theorem dL_law_43 : decode cL_law 43 = .ok (.istore_n 3, 1) := by decide +kernel
theorem dL_law_44 : decode cL_law 44 = .ok (.iload_n 3, 1) := by decide +kernel
theorem dL_law_45 : decode cL_law 45 = .ok (.bipush 12, 2) := by decide +kernel
theorem dL_law_47 : decode cL_law 47 = .ok (.if_icmp .ge 68, 3) := by decide +kernel
theorem dL_law_50 : decode cL_law 50 = .ok (.aload_n 2, 1) := by decide +kernel
theorem dL_law_51 : decode cL_law 51 = .ok (.aload_n 1, 1) := by decide +kernel
theorem dL_law_52 : decode cL_law 52 = .ok (.aload_n 0, 1) := by decide +kernel
theorem dL_law_53 : decode cL_law 53 = .ok (.iload_n 3, 1) := by decide +kernel
theorem dL_law_54 : decode cL_law 54 = .ok (.invokestatic 236, 3) := by decide +kernel
theorem dL_law_57 : decode cL_law 57 = .ok (.ifCond .eq 10, 3) := by decide +kernel
theorem dL_law_60 : decode cL_law 60 = .ok (.aload_n 2, 1) := by decide +kernel
theorem dL_law_61 : decode cL_law 61 = .ok (.invokestatic 240, 3) := by decide +kernel
theorem dL_law_64 : decode cL_law 64 = .ok (.ifCond .ne 5, 3) := by decide +kernel
theorem dL_law_67 : decode cL_law 67 = .ok (.iconst 0, 1) := by decide +kernel
theorem dL_law_68 : decode cL_law 68 = .ok (.ireturn, 1) := by decide +kernel
theorem dL_law_69 : decode cL_law 69 = .ok (.aload_n 1, 1) := by decide +kernel
theorem dL_law_70 : decode cL_law 70 = .ok (.getfield 40, 3) := by decide +kernel
theorem dL_law_73 : decode cL_law 73 = .ok (.invokeinterface 173 1, 5) := by decide +kernel
theorem dL_law_78 : decode cL_law 78 = .ok (.ifCond .ne 31, 3) := by decide +kernel
theorem dL_law_81 : decode cL_law 81 = .ok (.aload_n 2, 1) := by decide +kernel
theorem dL_law_82 : decode cL_law 82 = .ok (.aload_n 1, 1) := by decide +kernel
theorem dL_law_83 : decode cL_law 83 = .ok (.aload_n 0, 1) := by decide +kernel
theorem dL_law_84 : decode cL_law 84 = .ok (.sipush 500, 3) := by decide +kernel
theorem dL_law_87 : decode cL_law 87 = .ok (.iload_n 3, 1) := by decide +kernel
theorem dL_law_88 : decode cL_law 88 = .ok (.iadd, 1) := by decide +kernel
theorem dL_law_89 : decode cL_law 89 = .ok (.aload_n 1, 1) := by decide +kernel
theorem dL_law_90 : decode cL_law 90 = .ok (.getfield 40, 3) := by decide +kernel
theorem dL_law_93 : decode cL_law 93 = .ok (.invokeinterface 46 1, 5) := by decide +kernel
theorem dL_law_98 : decode cL_law 98 = .ok (.invokestatic 162, 3) := by decide +kernel
theorem dL_law_101 : decode cL_law 101 = .ok (.invokestatic 244, 3) := by decide +kernel
theorem dL_law_104 : decode cL_law 104 = .ok (.ifCond .ne 5, 3) := by decide +kernel
theorem dL_law_107 : decode cL_law 107 = .ok (.iconst 0, 1) := by decide +kernel
theorem dL_law_108 : decode cL_law 108 = .ok (.ireturn, 1) := by decide +kernel
theorem dL_law_109 : decode cL_law 109 = .ok (.iinc 3 1, 3) := by decide +kernel
theorem dL_law_112 : decode cL_law 112 = .ok (.goto (-68), 3) := by decide +kernel
theorem dL_law_115 : decode cL_law 115 = .ok (.iconst 1, 1) := by decide +kernel
theorem dL_law_116 : decode cL_law 116 = .ok (.ireturn, 1) := by decide +kernel
