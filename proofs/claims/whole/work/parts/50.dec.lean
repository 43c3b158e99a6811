theorem dJ0_length_8abf5_0 : decode cJ0_length_8abf5 0 = .ok (.aload_n 0, 1) := by decide +kernel
theorem dJ0_length_8abf5_1 : decode cJ0_length_8abf5 1 = .ok (.getfield 9, 3) := by decide +kernel
theorem dJ0_length_8abf5_4 : decode cJ0_length_8abf5 4 = .ok (.arraylength, 1) := by decide +kernel
theorem dJ0_length_8abf5_5 : decode cJ0_length_8abf5 5 = .ok (.aload_n 0, 1) := by decide +kernel
theorem dJ0_length_8abf5_6 : decode cJ0_length_8abf5 6 = .ok (.invokevirtual 335, 3) := by decide +kernel
theorem dJ0_length_8abf5_9 : decode cJ0_length_8abf5 9 = .ok (.ishr, 1) := by decide +kernel
theorem dJ0_length_8abf5_10 : decode cJ0_length_8abf5 10 = .ok (.ireturn, 1) := by decide +kernel
theorem dJ0_coder_7d493_0 : decode cJ0_coder_7d493 0 = .ok (.getstatic 38, 3) := by decide +kernel
theorem dJ0_coder_7d493_3 : decode cJ0_coder_7d493 3 = .ok (.ifCond .eq 10, 3) := by decide +kernel
theorem dJ0_coder_7d493_6 : decode cJ0_coder_7d493 6 = .ok (.aload_n 0, 1) := by decide +kernel
theorem dJ0_coder_7d493_7 : decode cJ0_coder_7d493 7 = .ok (.getfield 15, 3) := by decide +kernel
theorem dJ0_coder_7d493_10 : decode cJ0_coder_7d493 10 = .ok (.goto 4, 3) := by decide +kernel
theorem dJ0_coder_7d493_13 : decode cJ0_coder_7d493 13 = .ok (.iconst 1, 1) := by decide +kernel
theorem dJ0_coder_7d493_14 : decode cJ0_coder_7d493 14 = .ok (.ireturn, 1) := by decide +kernel
theorem dJ0_isLatin1_aae02_0 : decode cJ0_isLatin1_aae02 0 = .ok (.getstatic 38, 3) := by decide +kernel
theorem dJ0_isLatin1_aae02_3 : decode cJ0_isLatin1_aae02 3 = .ok (.ifCond .eq 14, 3) := by decide +kernel
theorem dJ0_isLatin1_aae02_6 : decode cJ0_isLatin1_aae02 6 = .ok (.aload_n 0, 1) := by decide +kernel
theorem dJ0_isLatin1_aae02_7 : decode cJ0_isLatin1_aae02 7 = .ok (.getfield 15, 3) := by decide +kernel
theorem dJ0_isLatin1_aae02_10 : decode cJ0_isLatin1_aae02 10 = .ok (.ifCond .ne 7, 3) := by decide +kernel
theorem dJ0_isLatin1_aae02_13 : decode cJ0_isLatin1_aae02 13 = .ok (.iconst 1, 1) := by decide +kernel
theorem dJ0_isLatin1_aae02_14 : decode cJ0_isLatin1_aae02 14 = .ok (.goto 4, 3) := by decide +kernel
theorem dJ0_isLatin1_aae02_17 : decode cJ0_isLatin1_aae02 17 = .ok (.iconst 0, 1) := by decide +kernel
theorem dJ0_isLatin1_aae02_18 : decode cJ0_isLatin1_aae02 18 = .ok (.ireturn, 1) := by decide +kernel
theorem dJ0_charAt_5068e_0 : decode cJ0_charAt_5068e 0 = .ok (.aload_n 0, 1) := by decide +kernel
theorem dJ0_charAt_5068e_1 : decode cJ0_charAt_5068e 1 = .ok (.invokevirtual 492, 3) := by decide +kernel
theorem dJ0_charAt_5068e_4 : decode cJ0_charAt_5068e 4 = .ok (.ifCond .eq 12, 3) := by decide +kernel
theorem dJ0_charAt_5068e_7 : decode cJ0_charAt_5068e 7 = .ok (.aload_n 0, 1) := by decide +kernel
theorem dJ0_charAt_5068e_8 : decode cJ0_charAt_5068e 8 = .ok (.getfield 9, 3) := by decide +kernel
theorem dJ0_charAt_5068e_11 : decode cJ0_charAt_5068e 11 = .ok (.iload_n 1, 1) := by decide +kernel
theorem dJ0_charAt_5068e_12 : decode cJ0_charAt_5068e 12 = .ok (.invokestatic 495, 3) := by decide +kernel
theorem dJ0_charAt_5068e_15 : decode cJ0_charAt_5068e 15 = .ok (.ireturn, 1) := by decide +kernel
theorem dJ0_charAt_5068e_16 : decode cJ0_charAt_5068e 16 = .ok (.aload_n 0, 1) := by decide +kernel
theorem dJ0_charAt_5068e_17 : decode cJ0_charAt_5068e 17 = .ok (.getfield 9, 3) := by decide +kernel
theorem dJ0_charAt_5068e_20 : decode cJ0_charAt_5068e 20 = .ok (.iload_n 1, 1) := by decide +kernel
theorem dJ0_charAt_5068e_21 : decode cJ0_charAt_5068e 21 = .ok (.invokestatic 498, 3) := by decide +kernel
theorem dJ0_charAt_5068e_24 : decode cJ0_charAt_5068e 24 = .ok (.ireturn, 1) := by decide +kernel
theorem dJ0_checkIndex_df160_0 : decode cJ0_checkIndex_df160 0 = .ok (.iload_n 0, 1) := by decide +kernel
theorem dJ0_checkIndex_df160_1 : decode cJ0_checkIndex_df160 1 = .ok (.iload_n 1, 1) := by decide +kernel
theorem dJ0_checkIndex_df160_2 : decode cJ0_checkIndex_df160 2 = .ok (.getstatic 1053, 3) := by decide +kernel
theorem dJ0_checkIndex_df160_5 : decode cJ0_checkIndex_df160 5 = .ok (.invokestatic 1059, 3) := by decide +kernel
theorem dJ0_checkIndex_df160_8 : decode cJ0_checkIndex_df160 8 = .ok (.pop, 1) := by decide +kernel
theorem dJ0_checkIndex_df160_9 : decode cJ0_checkIndex_df160 9 = .ok (.return_, 1) := by decide +kernel
theorem dJ1_charAt_3b067_0 : decode cJ1_charAt_3b067 0 = .ok (.iload_n 1, 1) := by decide +kernel
theorem dJ1_charAt_3b067_1 : decode cJ1_charAt_3b067 1 = .ok (.aload_n 0, 1) := by decide +kernel
theorem dJ1_charAt_3b067_2 : decode cJ1_charAt_3b067 2 = .ok (.arraylength, 1) := by decide +kernel
theorem dJ1_charAt_3b067_3 : decode cJ1_charAt_3b067 3 = .ok (.invokestatic 9, 3) := by decide +kernel
theorem dJ1_charAt_3b067_6 : decode cJ1_charAt_3b067 6 = .ok (.aload_n 0, 1) := by decide +kernel
theorem dJ1_charAt_3b067_7 : decode cJ1_charAt_3b067 7 = .ok (.iload_n 1, 1) := by decide +kernel
theorem dJ1_charAt_3b067_8 : decode cJ1_charAt_3b067 8 = .ok (.baload, 1) := by decide +kernel
theorem dJ1_charAt_3b067_9 : decode cJ1_charAt_3b067 9 = .ok (.sipush 255, 3) := by decide +kernel
theorem dJ1_charAt_3b067_12 : decode cJ1_charAt_3b067 12 = .ok (.iand, 1) := by decide +kernel
theorem dJ1_charAt_3b067_13 : decode cJ1_charAt_3b067 13 = .ok (.i2c, 1) := by decide +kernel
theorem dJ1_charAt_3b067_14 : decode cJ1_charAt_3b067 14 = .ok (.ireturn, 1) := by decide +kernel
theorem dJ3_checkIndex_8e157_0 : decode cJ3_checkIndex_8e157 0 = .ok (.iload_n 0, 1) := by decide +kernel
theorem dJ3_checkIndex_8e157_1 : decode cJ3_checkIndex_8e157 1 = .ok (.ifCond .lt 8, 3) := by decide +kernel
theorem dJ3_checkIndex_8e157_4 : decode cJ3_checkIndex_8e157 4 = .ok (.iload_n 0, 1) := by decide +kernel
theorem dJ3_checkIndex_8e157_5 : decode cJ3_checkIndex_8e157 5 = .ok (.iload_n 1, 1) := by decide +kernel
theorem dJ3_checkIndex_8e157_6 : decode cJ3_checkIndex_8e157 6 = .ok (.if_icmp .lt 10, 3) := by decide +kernel
theorem dJ3_checkIndex_8e157_9 : decode cJ3_checkIndex_8e157 9 = .ok (.aload_n 2, 1) := by decide +kernel
theorem dJ3_checkIndex_8e157_10 : decode cJ3_checkIndex_8e157 10 = .ok (.iload_n 0, 1) := by decide +kernel
theorem dJ3_checkIndex_8e157_11 : decode cJ3_checkIndex_8e157 11 = .ok (.iload_n 1, 1) := by decide +kernel
theorem dJ3_checkIndex_8e157_12 : decode cJ3_checkIndex_8e157 12 = .ok (.invokestatic 95, 3) := by decide +kernel
theorem dJ3_checkIndex_8e157_15 : decode cJ3_checkIndex_8e157 15 = .ok (.athrow, 1) := by decide +kernel
theorem dJ3_checkIndex_8e157_16 : decode cJ3_checkIndex_8e157 16 = .ok (.iload_n 0, 1) := by decide +kernel
theorem dJ3_checkIndex_8e157_17 : decode cJ3_checkIndex_8e157 17 = .ok (.ireturn, 1) := by decide +kernel
theorem dX0_init_0 : decode cX0_init 0 = .ok (.aload_n 0, 1) := by decide +kernel
theorem dX0_init_1 : decode cX0_init 1 = .ok (.invokespecial 3, 3) := by decide +kernel
theorem dX0_init_4 : decode cX0_init 4 = .ok (.aload_n 0, 1) := by decide +kernel
theorem dX0_init_5 : decode cX0_init 5 = .ok (.iconst 4, 1) := by decide +kernel
theorem dX0_init_6 : decode cX0_init 6 = .ok (.newarray .int, 2) := by decide +kernel
theorem dX0_init_8 : decode cX0_init 8 = .ok (.putfield 9, 3) := by decide +kernel
theorem dX0_init_11 : decode cX0_init 11 = .ok (.aload_n 0, 1) := by decide +kernel
theorem dX0_init_12 : decode cX0_init 12 = .ok (.bipush 8, 2) := by decide +kernel
theorem dX0_init_14 : decode cX0_init 14 = .ok (.newarray .int, 2) := by decide +kernel
theorem dX0_init_16 : decode cX0_init 16 = .ok (.putfield 15, 3) := by decide +kernel
theorem dX0_init_19 : decode cX0_init 19 = .ok (.aload_n 0, 1) := by decide +kernel
theorem dX0_init_20 : decode cX0_init 20 = .ok (.bipush 8, 2) := by decide +kernel
theorem dX0_init_22 : decode cX0_init 22 = .ok (.newarray .int, 2) := by decide +kernel
theorem dX0_init_24 : decode cX0_init 24 = .ok (.putfield 18, 3) := by decide +kernel
theorem dX0_init_27 : decode cX0_init 27 = .ok (.aload_n 0, 1) := by decide +kernel
theorem dX0_init_28 : decode cX0_init 28 = .ok (.bipush 8, 2) := by decide +kernel
theorem dX0_init_30 : decode cX0_init 30 = .ok (.newarray .int, 2) := by decide +kernel
theorem dX0_init_32 : decode cX0_init 32 = .ok (.putfield 21, 3) := by decide +kernel
theorem dX0_init_35 : decode cX0_init 35 = .ok (.return_, 1) := by decide +kernel
theorem dX0_begin_0 : decode cX0_begin 0 = .ok (.aload_n 0, 1) := by decide +kernel
theorem dX0_begin_1 : decode cX0_begin 1 = .ok (.lload_n 1, 1) := by decide +kernel
theorem dX0_begin_2 : decode cX0_begin 2 = .ok (.putfield 24, 3) := by decide +kernel
theorem dX0_begin_5 : decode cX0_begin 5 = .ok (.aload_n 0, 1) := by decide +kernel
theorem dX0_begin_6 : decode cX0_begin 6 = .ok (.iconst 2, 1) := by decide +kernel
theorem dX0_begin_7 : decode cX0_begin 7 = .ok (.putfield 28, 3) := by decide +kernel
theorem dX0_begin_10 : decode cX0_begin 10 = .ok (.aload_n 0, 1) := by decide +kernel
theorem dX0_begin_11 : decode cX0_begin 11 = .ok (.iconst 0, 1) := by decide +kernel
theorem dX0_begin_12 : decode cX0_begin 12 = .ok (.putfield 32, 3) := by decide +kernel
theorem dX0_begin_15 : decode cX0_begin 15 = .ok (.aload_n 0, 1) := by decide +kernel
theorem dX0_begin_16 : decode cX0_begin 16 = .ok (.iconst 0, 1) := by decide +kernel
theorem dX0_begin_17 : decode cX0_begin 17 = .ok (.putfield 35, 3) := by decide +kernel
theorem dX0_begin_20 : decode cX0_begin 20 = .ok (.aload_n 0, 1) := by decide +kernel
theorem dX0_begin_21 : decode cX0_begin 21 = .ok (.iconst 0, 1) := by decide +kernel
theorem dX0_begin_22 : decode cX0_begin 22 = .ok (.putfield 38, 3) := by decide +kernel
theorem dX0_begin_25 : decode cX0_begin 25 = .ok (.aload_n 0, 1) := by decide +kernel
theorem dX0_begin_26 : decode cX0_begin 26 = .ok (.iconst 0, 1) := by decide +kernel
theorem dX0_begin_27 : decode cX0_begin 27 = .ok (.putfield 41, 3) := by decide +kernel
theorem dX0_begin_30 : decode cX0_begin 30 = .ok (.aload_n 0, 1) := by decide +kernel
theorem dX0_begin_31 : decode cX0_begin 31 = .ok (.iconst 0, 1) := by decide +kernel
theorem dX0_begin_32 : decode cX0_begin 32 = .ok (.putfield 44, 3) := by decide +kernel
theorem dX0_begin_35 : decode cX0_begin 35 = .ok (.aload_n 0, 1) := by decide +kernel
theorem dX0_begin_36 : decode cX0_begin 36 = .ok (.iconst 0, 1) := by decide +kernel
theorem dX0_begin_37 : decode cX0_begin 37 = .ok (.putfield 48, 3) := by decide +kernel
theorem dX0_begin_40 : decode cX0_begin 40 = .ok (.aload_n 0, 1) := by decide +kernel
theorem dX0_begin_41 : decode cX0_begin 41 = .ok (.iconst 0, 1) := by decide +kernel
theorem dX0_begin_42 : decode cX0_begin 42 = .ok (.putfield 51, 3) := by decide +kernel
theorem dX0_begin_45 : decode cX0_begin 45 = .ok (.aload_n 0, 1) := by decide +kernel
theorem dX0_begin_46 : decode cX0_begin 46 = .ok (.iconst 0, 1) := by decide +kernel
theorem dX0_begin_47 : decode cX0_begin 47 = .ok (.putfield 54, 3) := by decide +kernel
theorem dX0_begin_50 : decode cX0_begin 50 = .ok (.aload_n 0, 1) := by decide +kernel
theorem dX0_begin_51 : decode cX0_begin 51 = .ok (.iconst 0, 1) := by decide +kernel
theorem dX0_begin_52 : decode cX0_begin 52 = .ok (.putfield 57, 3) := by decide +kernel
theorem dX0_begin_55 : decode cX0_begin 55 = .ok (.aload_n 0, 1) := by decide +kernel
theorem dX0_begin_56 : decode cX0_begin 56 = .ok (.invokevirtual 60, 3) := by decide +kernel
theorem dX0_begin_59 : decode cX0_begin 59 = .ok (.iconst 0, 1) := by decide +kernel
theorem dX0_begin_60 : decode cX0_begin 60 = .ok (.istore_n 3, 1) := by decide +kernel
theorem dX0_begin_61 : decode cX0_begin 61 = .ok (.iload_n 3, 1) := by decide +kernel
theorem dX0_begin_62 : decode cX0_begin 62 = .ok (.iconst 4, 1) := by decide +kernel
theorem dX0_begin_63 : decode cX0_begin 63 = .ok (.if_icmp .ge 16, 3) := by decide +kernel
theorem dX0_begin_66 : decode cX0_begin 66 = .ok (.aload_n 0, 1) := by decide +kernel
theorem dX0_begin_67 : decode cX0_begin 67 = .ok (.getfield 9, 3) := by decide +kernel
theorem dX0_begin_70 : decode cX0_begin 70 = .ok (.iload_n 3, 1) := by decide +kernel
theorem dX0_begin_71 : decode cX0_begin 71 = .ok (.iconst 0, 1) := by decide +kernel
theorem dX0_begin_72 : decode cX0_begin 72 = .ok (.iastore, 1) := by decide +kernel
theorem dX0_begin_73 : decode cX0_begin 73 = .ok (.iinc 3 1, 3) := by decide +kernel
theorem dX0_begin_76 : decode cX0_begin 76 = .ok (.goto (-15), 3) := by decide +kernel
theorem dX0_begin_79 : decode cX0_begin 79 = .ok (.iconst 0, 1) := by decide +kernel
theorem dX0_begin_80 : decode cX0_begin 80 = .ok (.istore_n 3, 1) := by decide +kernel
theorem dX0_begin_81 : decode cX0_begin 81 = .ok (.iload_n 3, 1) := by decide +kernel
theorem dX0_begin_82 : decode cX0_begin 82 = .ok (.bipush 8, 2) := by decide +kernel
theorem dX0_begin_84 : decode cX0_begin 84 = .ok (.if_icmp .ge 30, 3) := by decide +kernel
theorem dX0_begin_87 : decode cX0_begin 87 = .ok (.aload_n 0, 1) := by decide +kernel
theorem dX0_begin_88 : decode cX0_begin 88 = .ok (.getfield 15, 3) := by decide +kernel
theorem dX0_begin_91 : decode cX0_begin 91 = .ok (.iload_n 3, 1) := by decide +kernel
theorem dX0_begin_92 : decode cX0_begin 92 = .ok (.iconst (-1), 1) := by decide +kernel
theorem dX0_begin_93 : decode cX0_begin 93 = .ok (.iastore, 1) := by decide +kernel
theorem dX0_begin_94 : decode cX0_begin 94 = .ok (.aload_n 0, 1) := by decide +kernel
theorem dX0_begin_95 : decode cX0_begin 95 = .ok (.getfield 18, 3) := by decide +kernel
theorem dX0_begin_98 : decode cX0_begin 98 = .ok (.iload_n 3, 1) := by decide +kernel
theorem dX0_begin_99 : decode cX0_begin 99 = .ok (.iconst 0, 1) := by decide +kernel
theorem dX0_begin_100 : decode cX0_begin 100 = .ok (.iastore, 1) := by decide +kernel
theorem dX0_begin_101 : decode cX0_begin 101 = .ok (.aload_n 0, 1) := by decide +kernel
theorem dX0_begin_102 : decode cX0_begin 102 = .ok (.getfield 21, 3) := by decide +kernel
theorem dX0_begin_105 : decode cX0_begin 105 = .ok (.iload_n 3, 1) := by decide +kernel
theorem dX0_begin_106 : decode cX0_begin 106 = .ok (.iconst 5, 1) := by decide +kernel
theorem dX0_begin_107 : decode cX0_begin 107 = .ok (.iastore, 1) := by decide +kernel
theorem dX0_begin_108 : decode cX0_begin 108 = .ok (.iinc 3 1, 3) := by decide +kernel
theorem dX0_begin_111 : decode cX0_begin 111 = .ok (.goto (-30), 3) := by decide +kernel
theorem dX0_begin_114 : decode cX0_begin 114 = .ok (.return_, 1) := by decide +kernel
theorem dX0_copyFrom_0 : decode cX0_copyFrom 0 = .ok (.aload_n 0, 1) := by decide +kernel
theorem dX0_copyFrom_1 : decode cX0_copyFrom 1 = .ok (.aload_n 1, 1) := by decide +kernel
theorem dX0_copyFrom_2 : decode cX0_copyFrom 2 = .ok (.getfield 24, 3) := by decide +kernel
theorem dX0_copyFrom_5 : decode cX0_copyFrom 5 = .ok (.putfield 24, 3) := by decide +kernel
theorem dX0_copyFrom_8 : decode cX0_copyFrom 8 = .ok (.aload_n 0, 1) := by decide +kernel
theorem dX0_copyFrom_9 : decode cX0_copyFrom 9 = .ok (.aload_n 1, 1) := by decide +kernel
theorem dX0_copyFrom_10 : decode cX0_copyFrom 10 = .ok (.getfield 28, 3) := by decide +kernel
theorem dX0_copyFrom_13 : decode cX0_copyFrom 13 = .ok (.putfield 28, 3) := by decide +kernel
theorem dX0_copyFrom_16 : decode cX0_copyFrom 16 = .ok (.aload_n 0, 1) := by decide +kernel
theorem dX0_copyFrom_17 : decode cX0_copyFrom 17 = .ok (.aload_n 1, 1) := by decide +kernel
theorem dX0_copyFrom_18 : decode cX0_copyFrom 18 = .ok (.getfield 32, 3) := by decide +kernel
theorem dX0_copyFrom_21 : decode cX0_copyFrom 21 = .ok (.putfield 32, 3) := by decide +kernel
theorem dX0_copyFrom_24 : decode cX0_copyFrom 24 = .ok (.aload_n 0, 1) := by decide +kernel
theorem dX0_copyFrom_25 : decode cX0_copyFrom 25 = .ok (.aload_n 1, 1) := by decide +kernel
theorem dX0_copyFrom_26 : decode cX0_copyFrom 26 = .ok (.getfield 35, 3) := by decide +kernel
theorem dX0_copyFrom_29 : decode cX0_copyFrom 29 = .ok (.putfield 35, 3) := by decide +kernel
theorem dX0_copyFrom_32 : decode cX0_copyFrom 32 = .ok (.aload_n 0, 1) := by decide +kernel
theorem dX0_copyFrom_33 : decode cX0_copyFrom 33 = .ok (.aload_n 1, 1) := by decide +kernel
theorem dX0_copyFrom_34 : decode cX0_copyFrom 34 = .ok (.getfield 38, 3) := by decide +kernel
theorem dX0_copyFrom_37 : decode cX0_copyFrom 37 = .ok (.putfield 38, 3) := by decide +kernel
theorem dX0_copyFrom_40 : decode cX0_copyFrom 40 = .ok (.aload_n 0, 1) := by decide +kernel
theorem dX0_copyFrom_41 : decode cX0_copyFrom 41 = .ok (.aload_n 1, 1) := by decide +kernel
theorem dX0_copyFrom_42 : decode cX0_copyFrom 42 = .ok (.getfield 41, 3) := by decide +kernel
theorem dX0_copyFrom_45 : decode cX0_copyFrom 45 = .ok (.putfield 41, 3) := by decide +kernel
theorem dX0_copyFrom_48 : decode cX0_copyFrom 48 = .ok (.aload_n 0, 1) := by decide +kernel
theorem dX0_copyFrom_49 : decode cX0_copyFrom 49 = .ok (.aload_n 1, 1) := by decide +kernel
theorem dX0_copyFrom_50 : decode cX0_copyFrom 50 = .ok (.getfield 63, 3) := by decide +kernel
theorem dX0_copyFrom_53 : decode cX0_copyFrom 53 = .ok (.putfield 63, 3) := by decide +kernel
theorem dX0_copyFrom_56 : decode cX0_copyFrom 56 = .ok (.aload_n 0, 1) := by decide +kernel
theorem dX0_copyFrom_57 : decode cX0_copyFrom 57 = .ok (.aload_n 1, 1) := by decide +kernel
theorem dX0_copyFrom_58 : decode cX0_copyFrom 58 = .ok (.getfield 66, 3) := by decide +kernel
theorem dX0_copyFrom_61 : decode cX0_copyFrom 61 = .ok (.putfield 66, 3) := by decide +kernel
theorem dX0_copyFrom_64 : decode cX0_copyFrom 64 = .ok (.aload_n 0, 1) := by decide +kernel
theorem dX0_copyFrom_65 : decode cX0_copyFrom 65 = .ok (.aload_n 1, 1) := by decide +kernel
theorem dX0_copyFrom_66 : decode cX0_copyFrom 66 = .ok (.getfield 69, 3) := by decide +kernel
theorem dX0_copyFrom_69 : decode cX0_copyFrom 69 = .ok (.putfield 69, 3) := by decide +kernel
theorem dX0_copyFrom_72 : decode cX0_copyFrom 72 = .ok (.aload_n 0, 1) := by decide +kernel
theorem dX0_copyFrom_73 : decode cX0_copyFrom 73 = .ok (.aload_n 1, 1) := by decide +kernel
theorem dX0_copyFrom_74 : decode cX0_copyFrom 74 = .ok (.getfield 44, 3) := by decide +kernel
theorem dX0_copyFrom_77 : decode cX0_copyFrom 77 = .ok (.putfield 44, 3) := by decide +kernel
theorem dX0_copyFrom_80 : decode cX0_copyFrom 80 = .ok (.aload_n 0, 1) := by decide +kernel
theorem dX0_copyFrom_81 : decode cX0_copyFrom 81 = .ok (.aload_n 1, 1) := by decide +kernel
theorem dX0_copyFrom_82 : decode cX0_copyFrom 82 = .ok (.getfield 48, 3) := by decide +kernel
theorem dX0_copyFrom_85 : decode cX0_copyFrom 85 = .ok (.putfield 48, 3) := by decide +kernel
theorem dX0_copyFrom_88 : decode cX0_copyFrom 88 = .ok (.aload_n 0, 1) := by decide +kernel
theorem dX0_copyFrom_89 : decode cX0_copyFrom 89 = .ok (.aload_n 1, 1) := by decide +kernel
theorem dX0_copyFrom_90 : decode cX0_copyFrom 90 = .ok (.getfield 51, 3) := by decide +kernel
theorem dX0_copyFrom_93 : decode cX0_copyFrom 93 = .ok (.putfield 51, 3) := by decide +kernel
theorem dX0_copyFrom_96 : decode cX0_copyFrom 96 = .ok (.aload_n 0, 1) := by decide +kernel
theorem dX0_copyFrom_97 : decode cX0_copyFrom 97 = .ok (.aload_n 1, 1) := by decide +kernel
theorem dX0_copyFrom_98 : decode cX0_copyFrom 98 = .ok (.getfield 54, 3) := by decide +kernel
theorem dX0_copyFrom_101 : decode cX0_copyFrom 101 = .ok (.putfield 54, 3) := by decide +kernel
theorem dX0_copyFrom_104 : decode cX0_copyFrom 104 = .ok (.aload_n 0, 1) := by decide +kernel
theorem dX0_copyFrom_105 : decode cX0_copyFrom 105 = .ok (.aload_n 1, 1) := by decide +kernel
theorem dX0_copyFrom_106 : decode cX0_copyFrom 106 = .ok (.getfield 57, 3) := by decide +kernel
theorem dX0_copyFrom_109 : decode cX0_copyFrom 109 = .ok (.putfield 57, 3) := by decide +kernel
theorem dX0_copyFrom_112 : decode cX0_copyFrom 112 = .ok (.iconst 0, 1) := by decide +kernel
theorem dX0_copyFrom_113 : decode cX0_copyFrom 113 = .ok (.istore_n 2, 1) := by decide +kernel
theorem dX0_copyFrom_114 : decode cX0_copyFrom 114 = .ok (.iload_n 2, 1) := by decide +kernel
theorem dX0_copyFrom_115 : decode cX0_copyFrom 115 = .ok (.iconst 4, 1) := by decide +kernel
theorem dX0_copyFrom_116 : decode cX0_copyFrom 116 = .ok (.if_icmp .ge 21, 3) := by decide +kernel
theorem dX0_copyFrom_119 : decode cX0_copyFrom 119 = .ok (.aload_n 0, 1) := by decide +kernel
theorem dX0_copyFrom_120 : decode cX0_copyFrom 120 = .ok (.getfield 9, 3) := by decide +kernel
theorem dX0_copyFrom_123 : decode cX0_copyFrom 123 = .ok (.iload_n 2, 1) := by decide +kernel
theorem dX0_copyFrom_124 : decode cX0_copyFrom 124 = .ok (.aload_n 1, 1) := by decide +kernel
theorem dX0_copyFrom_125 : decode cX0_copyFrom 125 = .ok (.getfield 9, 3) := by decide +kernel
theorem dX0_copyFrom_128 : decode cX0_copyFrom 128 = .ok (.iload_n 2, 1) := by decide +kernel
theorem dX0_copyFrom_129 : decode cX0_copyFrom 129 = .ok (.iaload, 1) := by decide +kernel
theorem dX0_copyFrom_130 : decode cX0_copyFrom 130 = .ok (.iastore, 1) := by decide +kernel
theorem dX0_copyFrom_131 : decode cX0_copyFrom 131 = .ok (.iinc 2 1, 3) := by decide +kernel
theorem dX0_copyFrom_134 : decode cX0_copyFrom 134 = .ok (.goto (-20), 3) := by decide +kernel
theorem dX0_copyFrom_137 : decode cX0_copyFrom 137 = .ok (.iconst 0, 1) := by decide +kernel
theorem dX0_copyFrom_138 : decode cX0_copyFrom 138 = .ok (.istore_n 2, 1) := by decide +kernel
theorem dX0_copyFrom_139 : decode cX0_copyFrom 139 = .ok (.iload_n 2, 1) := by decide +kernel
theorem dX0_copyFrom_140 : decode cX0_copyFrom 140 = .ok (.bipush 8, 2) := by decide +kernel
theorem dX0_copyFrom_142 : decode cX0_copyFrom 142 = .ok (.if_icmp .ge 45, 3) := by decide +kernel
theorem dX0_copyFrom_145 : decode cX0_copyFrom 145 = .ok (.aload_n 0, 1) := by decide +kernel
theorem dX0_copyFrom_146 : decode cX0_copyFrom 146 = .ok (.getfield 15, 3) := by decide +kernel
theorem dX0_copyFrom_149 : decode cX0_copyFrom 149 = .ok (.iload_n 2, 1) := by decide +kernel
theorem dX0_copyFrom_150 : decode cX0_copyFrom 150 = .ok (.aload_n 1, 1) := by decide +kernel
theorem dX0_copyFrom_151 : decode cX0_copyFrom 151 = .ok (.getfield 15, 3) := by decide +kernel
theorem dX0_copyFrom_154 : decode cX0_copyFrom 154 = .ok (.iload_n 2, 1) := by decide +kernel
theorem dX0_copyFrom_155 : decode cX0_copyFrom 155 = .ok (.iaload, 1) := by decide +kernel
theorem dX0_copyFrom_156 : decode cX0_copyFrom 156 = .ok (.iastore, 1) := by decide +kernel
theorem dX0_copyFrom_157 : decode cX0_copyFrom 157 = .ok (.aload_n 0, 1) := by decide +kernel
theorem dX0_copyFrom_158 : decode cX0_copyFrom 158 = .ok (.getfield 18, 3) := by decide +kernel
theorem dX0_copyFrom_161 : decode cX0_copyFrom 161 = .ok (.iload_n 2, 1) := by decide +kernel
theorem dX0_copyFrom_162 : decode cX0_copyFrom 162 = .ok (.aload_n 1, 1) := by decide +kernel
theorem dX0_copyFrom_163 : decode cX0_copyFrom 163 = .ok (.getfield 18, 3) := by decide +kernel
theorem dX0_copyFrom_166 : decode cX0_copyFrom 166 = .ok (.iload_n 2, 1) := by decide +kernel
theorem dX0_copyFrom_167 : decode cX0_copyFrom 167 = .ok (.iaload, 1) := by decide +kernel
theorem dX0_copyFrom_168 : decode cX0_copyFrom 168 = .ok (.iastore, 1) := by decide +kernel
theorem dX0_copyFrom_169 : decode cX0_copyFrom 169 = .ok (.aload_n 0, 1) := by decide +kernel
theorem dX0_copyFrom_170 : decode cX0_copyFrom 170 = .ok (.getfield 21, 3) := by decide +kernel
theorem dX0_copyFrom_173 : decode cX0_copyFrom 173 = .ok (.iload_n 2, 1) := by decide +kernel
theorem dX0_copyFrom_174 : decode cX0_copyFrom 174 = .ok (.aload_n 1, 1) := by decide +kernel
theorem dX0_copyFrom_175 : decode cX0_copyFrom 175 = .ok (.getfield 21, 3) := by decide +kernel
theorem dX0_copyFrom_178 : decode cX0_copyFrom 178 = .ok (.iload_n 2, 1) := by decide +kernel
theorem dX0_copyFrom_179 : decode cX0_copyFrom 179 = .ok (.iaload, 1) := by decide +kernel
theorem dX0_copyFrom_180 : decode cX0_copyFrom 180 = .ok (.iastore, 1) := by decide +kernel
theorem dX0_copyFrom_181 : decode cX0_copyFrom 181 = .ok (.iinc 2 1, 3) := by decide +kernel
theorem dX0_copyFrom_184 : decode cX0_copyFrom 184 = .ok (.goto (-45), 3) := by decide +kernel
theorem dX0_copyFrom_187 : decode cX0_copyFrom 187 = .ok (.return_, 1) := by decide +kernel
theorem dX0_allowsPeriod_0 : decode cX0_allowsPeriod 0 = .ok (.iload_n 1, 1) := by decide +kernel
theorem dX0_allowsPeriod_1 : decode cX0_allowsPeriod 1 = .ok (.iconst 2, 1) := by decide +kernel
theorem dX0_allowsPeriod_2 : decode cX0_allowsPeriod 2 = .ok (.if_icmp .lt 21, 3) := by decide +kernel
theorem dX0_allowsPeriod_5 : decode cX0_allowsPeriod 5 = .ok (.iload_n 1, 1) := by decide +kernel
theorem dX0_allowsPeriod_6 : decode cX0_allowsPeriod 6 = .ok (.bipush 99, 2) := by decide +kernel
theorem dX0_allowsPeriod_8 : decode cX0_allowsPeriod 8 = .ok (.if_icmp .gt 15, 3) := by decide +kernel
theorem dX0_allowsPeriod_11 : decode cX0_allowsPeriod 11 = .ok (.iload_n 1, 1) := by decide +kernel
theorem dX0_allowsPeriod_12 : decode cX0_allowsPeriod 12 = .ok (.aload_n 0, 1) := by decide +kernel
theorem dX0_allowsPeriod_13 : decode cX0_allowsPeriod 13 = .ok (.getfield 32, 3) := by decide +kernel
theorem dX0_allowsPeriod_16 : decode cX0_allowsPeriod 16 = .ok (.if_icmp .le 7, 3) := by decide +kernel
theorem dX0_allowsPeriod_19 : decode cX0_allowsPeriod 19 = .ok (.iconst 1, 1) := by decide +kernel
theorem dX0_allowsPeriod_20 : decode cX0_allowsPeriod 20 = .ok (.goto 4, 3) := by decide +kernel
theorem dX0_allowsPeriod_23 : decode cX0_allowsPeriod 23 = .ok (.iconst 0, 1) := by decide +kernel
theorem dX0_allowsPeriod_24 : decode cX0_allowsPeriod 24 = .ok (.ireturn, 1) := by decide +kernel
theorem dX0_allowsFirstWake_0 : decode cX0_allowsFirstWake 0 = .ok (.iload_n 1, 1) := by decide +kernel
theorem dX0_allowsFirstWake_1 : decode cX0_allowsFirstWake 1 = .ok (.ifCond .lt 15, 3) := by decide +kernel
theorem dX0_allowsFirstWake_4 : decode cX0_allowsFirstWake 4 = .ok (.iload_n 1, 1) := by decide +kernel
theorem dX0_allowsFirstWake_5 : decode cX0_allowsFirstWake 5 = .ok (.aload_n 0, 1) := by decide +kernel
theorem dX0_allowsFirstWake_6 : decode cX0_allowsFirstWake 6 = .ok (.getfield 28, 3) := by decide +kernel
theorem dX0_allowsFirstWake_9 : decode cX0_allowsFirstWake 9 = .ok (.if_icmp .ge 7, 3) := by decide +kernel
theorem dX0_allowsFirstWake_12 : decode cX0_allowsFirstWake 12 = .ok (.iconst 1, 1) := by decide +kernel
theorem dX0_allowsFirstWake_13 : decode cX0_allowsFirstWake 13 = .ok (.goto 4, 3) := by decide +kernel
theorem dX0_allowsFirstWake_16 : decode cX0_allowsFirstWake 16 = .ok (.iconst 0, 1) := by decide +kernel
theorem dX0_allowsFirstWake_17 : decode cX0_allowsFirstWake 17 = .ok (.ireturn, 1) := by decide +kernel
theorem dX0_isDueAt_0 : decode cX0_isDueAt 0 = .ok (.iload_n 1, 1) := by decide +kernel
theorem dX0_isDueAt_1 : decode cX0_isDueAt 1 = .ok (.aload_n 0, 1) := by decide +kernel
theorem dX0_isDueAt_2 : decode cX0_isDueAt 2 = .ok (.getfield 32, 3) := by decide +kernel
theorem dX0_isDueAt_5 : decode cX0_isDueAt 5 = .ok (.isub, 1) := by decide +kernel
theorem dX0_isDueAt_6 : decode cX0_isDueAt 6 = .ok (.istore_n 2, 1) := by decide +kernel
theorem dX0_isDueAt_7 : decode cX0_isDueAt 7 = .ok (.iload_n 2, 1) := by decide +kernel
theorem dX0_isDueAt_8 : decode cX0_isDueAt 8 = .ok (.ifCond .lt 23, 3) := by decide +kernel
theorem dX0_isDueAt_11 : decode cX0_isDueAt 11 = .ok (.aload_n 0, 1) := by decide +kernel
theorem dX0_isDueAt_12 : decode cX0_isDueAt 12 = .ok (.getfield 28, 3) := by decide +kernel
theorem dX0_isDueAt_15 : decode cX0_isDueAt 15 = .ok (.ifCond .le 16, 3) := by decide +kernel
theorem dX0_isDueAt_18 : decode cX0_isDueAt 18 = .ok (.iload_n 2, 1) := by decide +kernel
theorem dX0_isDueAt_19 : decode cX0_isDueAt 19 = .ok (.aload_n 0, 1) := by decide +kernel
theorem dX0_isDueAt_20 : decode cX0_isDueAt 20 = .ok (.getfield 28, 3) := by decide +kernel
theorem dX0_isDueAt_23 : decode cX0_isDueAt 23 = .ok (.irem, 1) := by decide +kernel
theorem dX0_isDueAt_24 : decode cX0_isDueAt 24 = .ok (.ifCond .ne 7, 3) := by decide +kernel
theorem dX0_isDueAt_27 : decode cX0_isDueAt 27 = .ok (.iconst 1, 1) := by decide +kernel
theorem dX0_isDueAt_28 : decode cX0_isDueAt 28 = .ok (.goto 4, 3) := by decide +kernel
theorem dX0_isDueAt_31 : decode cX0_isDueAt 31 = .ok (.iconst 0, 1) := by decide +kernel
theorem dX0_isDueAt_32 : decode cX0_isDueAt 32 = .ok (.ireturn, 1) := by decide +kernel
theorem dX0_slotsUntilDue_0 : decode cX0_slotsUntilDue 0 = .ok (.iconst 1, 1) := by decide +kernel
theorem dX0_slotsUntilDue_1 : decode cX0_slotsUntilDue 1 = .ok (.istore_n 2, 1) := by decide +kernel
theorem dX0_slotsUntilDue_2 : decode cX0_slotsUntilDue 2 = .ok (.iload_n 2, 1) := by decide +kernel
theorem dX0_slotsUntilDue_3 : decode cX0_slotsUntilDue 3 = .ok (.bipush 99, 2) := by decide +kernel
theorem dX0_slotsUntilDue_5 : decode cX0_slotsUntilDue 5 = .ok (.if_icmp .ge 19, 3) := by decide +kernel
theorem dX0_slotsUntilDue_8 : decode cX0_slotsUntilDue 8 = .ok (.aload_n 0, 1) := by decide +kernel
theorem dX0_slotsUntilDue_9 : decode cX0_slotsUntilDue 9 = .ok (.iload_n 1, 1) := by decide +kernel
theorem dX0_slotsUntilDue_10 : decode cX0_slotsUntilDue 10 = .ok (.iload_n 2, 1) := by decide +kernel
theorem dX0_slotsUntilDue_11 : decode cX0_slotsUntilDue 11 = .ok (.iadd, 1) := by decide +kernel
theorem dX0_slotsUntilDue_12 : decode cX0_slotsUntilDue 12 = .ok (.invokevirtual 72, 3) := by decide +kernel
theorem dX0_slotsUntilDue_15 : decode cX0_slotsUntilDue 15 = .ok (.ifCond .ne 9, 3) := by decide +kernel
theorem dX0_slotsUntilDue_18 : decode cX0_slotsUntilDue 18 = .ok (.iinc 2 1, 3) := by decide +kernel
theorem dX0_slotsUntilDue_21 : decode cX0_slotsUntilDue 21 = .ok (.goto (-19), 3) := by decide +kernel
theorem dX0_slotsUntilDue_24 : decode cX0_slotsUntilDue 24 = .ok (.iload_n 2, 1) := by decide +kernel
theorem dX0_slotsUntilDue_25 : decode cX0_slotsUntilDue 25 = .ok (.ireturn, 1) := by decide +kernel
theorem dX0_windowSize_0 : decode cX0_windowSize 0 = .ok (.bipush 32, 2) := by decide +kernel
theorem dX0_windowSize_2 : decode cX0_windowSize 2 = .ok (.iconst 2, 1) := by decide +kernel
theorem dX0_windowSize_3 : decode cX0_windowSize 3 = .ok (.aload_n 0, 1) := by decide +kernel
theorem dX0_windowSize_4 : decode cX0_windowSize 4 = .ok (.getfield 69, 3) := by decide +kernel
theorem dX0_windowSize_7 : decode cX0_windowSize 7 = .ok (.ishl, 1) := by decide +kernel
theorem dX0_windowSize_8 : decode cX0_windowSize 8 = .ok (.invokestatic 76, 3) := by decide +kernel
theorem dX0_windowSize_11 : decode cX0_windowSize 11 = .ok (.ireturn, 1) := by decide +kernel
theorem dX0_hasOpenEars_0 : decode cX0_hasOpenEars 0 = .ok (.aload_n 0, 1) := by decide +kernel
theorem dX0_hasOpenEars_1 : decode cX0_hasOpenEars 1 = .ok (.getfield 63, 3) := by decide +kernel
theorem dX0_hasOpenEars_4 : decode cX0_hasOpenEars 4 = .ok (.iconst 1, 1) := by decide +kernel
theorem dX0_hasOpenEars_5 : decode cX0_hasOpenEars 5 = .ok (.if_icmp .eq 11, 3) := by decide +kernel
theorem dX0_hasOpenEars_8 : decode cX0_hasOpenEars 8 = .ok (.aload_n 0, 1) := by decide +kernel
theorem dX0_hasOpenEars_9 : decode cX0_hasOpenEars 9 = .ok (.getfield 63, 3) := by decide +kernel
theorem dX0_hasOpenEars_12 : decode cX0_hasOpenEars 12 = .ok (.iconst 2, 1) := by decide +kernel
theorem dX0_hasOpenEars_13 : decode cX0_hasOpenEars 13 = .ok (.if_icmp .ne 7, 3) := by decide +kernel
theorem dX0_hasOpenEars_16 : decode cX0_hasOpenEars 16 = .ok (.iconst 1, 1) := by decide +kernel
theorem dX0_hasOpenEars_17 : decode cX0_hasOpenEars 17 = .ok (.goto 4, 3) := by decide +kernel
theorem dX0_hasOpenEars_20 : decode cX0_hasOpenEars 20 = .ok (.iconst 0, 1) := by decide +kernel
theorem dX0_hasOpenEars_21 : decode cX0_hasOpenEars 21 = .ok (.ireturn, 1) := by decide +kernel
theorem dX0_fallAsleep_0 : decode cX0_fallAsleep 0 = .ok (.aload_n 0, 1) := by decide +kernel
theorem dX0_fallAsleep_1 : decode cX0_fallAsleep 1 = .ok (.iconst 0, 1) := by decide +kernel
theorem dX0_fallAsleep_2 : decode cX0_fallAsleep 2 = .ok (.putfield 63, 3) := by decide +kernel
theorem dX0_fallAsleep_5 : decode cX0_fallAsleep 5 = .ok (.aload_n 0, 1) := by decide +kernel
theorem dX0_fallAsleep_6 : decode cX0_fallAsleep 6 = .ok (.iconst 0, 1) := by decide +kernel
theorem dX0_fallAsleep_7 : decode cX0_fallAsleep 7 = .ok (.putfield 66, 3) := by decide +kernel
theorem dX0_fallAsleep_10 : decode cX0_fallAsleep 10 = .ok (.aload_n 0, 1) := by decide +kernel
theorem dX0_fallAsleep_11 : decode cX0_fallAsleep 11 = .ok (.iconst 0, 1) := by decide +kernel
theorem dX0_fallAsleep_12 : decode cX0_fallAsleep 12 = .ok (.putfield 69, 3) := by decide +kernel
theorem dX0_fallAsleep_15 : decode cX0_fallAsleep 15 = .ok (.return_, 1) := by decide +kernel
theorem dX0_startListening_0 : decode cX0_startListening 0 = .ok (.aload_n 0, 1) := by decide +kernel
theorem dX0_startListening_1 : decode cX0_startListening 1 = .ok (.iconst 1, 1) := by decide +kernel
theorem dX0_startListening_2 : decode cX0_startListening 2 = .ok (.putfield 63, 3) := by decide +kernel
theorem dX0_startListening_5 : decode cX0_startListening 5 = .ok (.aload_n 0, 1) := by decide +kernel
theorem dX0_startListening_6 : decode cX0_startListening 6 = .ok (.aload_n 0, 1) := by decide +kernel
theorem dX0_startListening_7 : decode cX0_startListening 7 = .ok (.getfield 35, 3) := by decide +kernel
theorem dX0_startListening_10 : decode cX0_startListening 10 = .ok (.putfield 66, 3) := by decide +kernel
theorem dX0_startListening_13 : decode cX0_startListening 13 = .ok (.aload_n 0, 1) := by decide +kernel
theorem dX0_startListening_14 : decode cX0_startListening 14 = .ok (.iconst 0, 1) := by decide +kernel
theorem dX0_startListening_15 : decode cX0_startListening 15 = .ok (.putfield 44, 3) := by decide +kernel
theorem dX0_startListening_18 : decode cX0_startListening 18 = .ok (.return_, 1) := by decide +kernel
theorem dX0_startSending_0 : decode cX0_startSending 0 = .ok (.aload_n 0, 1) := by decide +kernel
theorem dX0_startSending_1 : decode cX0_startSending 1 = .ok (.iconst 3, 1) := by decide +kernel
theorem dX0_startSending_2 : decode cX0_startSending 2 = .ok (.putfield 63, 3) := by decide +kernel
theorem dX0_startSending_5 : decode cX0_startSending 5 = .ok (.aload_n 0, 1) := by decide +kernel
theorem dX0_startSending_6 : decode cX0_startSending 6 = .ok (.aload_n 0, 1) := by decide +kernel
theorem dX0_startSending_7 : decode cX0_startSending 7 = .ok (.getfield 38, 3) := by decide +kernel
theorem dX0_startSending_10 : decode cX0_startSending 10 = .ok (.putfield 66, 3) := by decide +kernel
theorem dX0_startSending_13 : decode cX0_startSending 13 = .ok (.iconst 0, 1) := by decide +kernel
theorem dX0_startSending_14 : decode cX0_startSending 14 = .ok (.istore_n 1, 1) := by decide +kernel
theorem dX0_startSending_15 : decode cX0_startSending 15 = .ok (.iload_n 1, 1) := by decide +kernel
theorem dX0_startSending_16 : decode cX0_startSending 16 = .ok (.bipush 8, 2) := by decide +kernel
theorem dX0_startSending_18 : decode cX0_startSending 18 = .ok (.if_icmp .ge 16, 3) := by decide +kernel
theorem dX0_startSending_21 : decode cX0_startSending 21 = .ok (.aload_n 0, 1) := by decide +kernel
theorem dX0_startSending_22 : decode cX0_startSending 22 = .ok (.getfield 18, 3) := by decide +kernel
theorem dX0_startSending_25 : decode cX0_startSending 25 = .ok (.iload_n 1, 1) := by decide +kernel
theorem dX0_startSending_26 : decode cX0_startSending 26 = .ok (.iconst 0, 1) := by decide +kernel
theorem dX0_startSending_27 : decode cX0_startSending 27 = .ok (.iastore, 1) := by decide +kernel
theorem dX0_startSending_28 : decode cX0_startSending 28 = .ok (.iinc 1 1, 3) := by decide +kernel
theorem dX0_startSending_31 : decode cX0_startSending 31 = .ok (.goto (-16), 3) := by decide +kernel
theorem dX0_startSending_34 : decode cX0_startSending 34 = .ok (.return_, 1) := by decide +kernel
theorem dX0_payForSlot_0 : decode cX0_payForSlot 0 = .ok (.iload_n 1, 1) := by decide +kernel
theorem dX0_payForSlot_1 : decode cX0_payForSlot 1 = .ok (.aload_n 0, 1) := by decide +kernel
theorem dX0_payForSlot_2 : decode cX0_payForSlot 2 = .ok (.getfield 41, 3) := by decide +kernel
theorem dX0_payForSlot_5 : decode cX0_payForSlot 5 = .ok (.invokestatic 76, 3) := by decide +kernel
theorem dX0_payForSlot_8 : decode cX0_payForSlot 8 = .ok (.istore_n 2, 1) := by decide +kernel
theorem dX0_payForSlot_9 : decode cX0_payForSlot 9 = .ok (.aload_n 0, 1) := by decide +kernel
theorem dX0_payForSlot_10 : decode cX0_payForSlot 10 = .ok (.dup, 1) := by decide +kernel
theorem dX0_payForSlot_11 : decode cX0_payForSlot 11 = .ok (.getfield 41, 3) := by decide +kernel
theorem dX0_payForSlot_14 : decode cX0_payForSlot 14 = .ok (.iload_n 2, 1) := by decide +kernel
theorem dX0_payForSlot_15 : decode cX0_payForSlot 15 = .ok (.isub, 1) := by decide +kernel
theorem dX0_payForSlot_16 : decode cX0_payForSlot 16 = .ok (.putfield 41, 3) := by decide +kernel
theorem dX0_payForSlot_19 : decode cX0_payForSlot 19 = .ok (.aload_n 0, 1) := by decide +kernel
theorem dX0_payForSlot_20 : decode cX0_payForSlot 20 = .ok (.dup, 1) := by decide +kernel
theorem dX0_payForSlot_21 : decode cX0_payForSlot 21 = .ok (.getfield 57, 3) := by decide +kernel
theorem dX0_payForSlot_24 : decode cX0_payForSlot 24 = .ok (.iload_n 2, 1) := by decide +kernel
theorem dX0_payForSlot_25 : decode cX0_payForSlot 25 = .ok (.iadd, 1) := by decide +kernel
theorem dX0_payForSlot_26 : decode cX0_payForSlot 26 = .ok (.putfield 57, 3) := by decide +kernel
theorem dX0_payForSlot_29 : decode cX0_payForSlot 29 = .ok (.aload_n 0, 1) := by decide +kernel
theorem dX0_payForSlot_30 : decode cX0_payForSlot 30 = .ok (.getfield 41, 3) := by decide +kernel
theorem dX0_payForSlot_33 : decode cX0_payForSlot 33 = .ok (.ifCond .ne 13, 3) := by decide +kernel
theorem dX0_payForSlot_36 : decode cX0_payForSlot 36 = .ok (.aload_n 0, 1) := by decide +kernel
theorem dX0_payForSlot_37 : decode cX0_payForSlot 37 = .ok (.iconst 4, 1) := by decide +kernel
theorem dX0_payForSlot_38 : decode cX0_payForSlot 38 = .ok (.putfield 63, 3) := by decide +kernel
theorem dX0_payForSlot_41 : decode cX0_payForSlot 41 = .ok (.aload_n 0, 1) := by decide +kernel
theorem dX0_payForSlot_42 : decode cX0_payForSlot 42 = .ok (.iconst 0, 1) := by decide +kernel
theorem dX0_payForSlot_43 : decode cX0_payForSlot 43 = .ok (.putfield 66, 3) := by decide +kernel
theorem dX0_payForSlot_46 : decode cX0_payForSlot 46 = .ok (.return_, 1) := by decide +kernel
theorem dX0_takeEnergy_0 : decode cX0_takeEnergy 0 = .ok (.aload_n 0, 1) := by decide +kernel
theorem dX0_takeEnergy_1 : decode cX0_takeEnergy 1 = .ok (.sipush 9999, 3) := by decide +kernel
theorem dX0_takeEnergy_4 : decode cX0_takeEnergy 4 = .ok (.aload_n 0, 1) := by decide +kernel
theorem dX0_takeEnergy_5 : decode cX0_takeEnergy 5 = .ok (.getfield 41, 3) := by decide +kernel
theorem dX0_takeEnergy_8 : decode cX0_takeEnergy 8 = .ok (.iload_n 1, 1) := by decide +kernel
theorem dX0_takeEnergy_9 : decode cX0_takeEnergy 9 = .ok (.iadd, 1) := by decide +kernel
theorem dX0_takeEnergy_10 : decode cX0_takeEnergy 10 = .ok (.invokestatic 76, 3) := by decide +kernel
theorem dX0_takeEnergy_13 : decode cX0_takeEnergy 13 = .ok (.putfield 41, 3) := by decide +kernel
theorem dX0_takeEnergy_16 : decode cX0_takeEnergy 16 = .ok (.aload_n 0, 1) := by decide +kernel
theorem dX0_takeEnergy_17 : decode cX0_takeEnergy 17 = .ok (.getfield 63, 3) := by decide +kernel
theorem dX0_takeEnergy_20 : decode cX0_takeEnergy 20 = .ok (.iconst 4, 1) := by decide +kernel
theorem dX0_takeEnergy_21 : decode cX0_takeEnergy 21 = .ok (.if_icmp .ne 7, 3) := by decide +kernel
theorem dX0_takeEnergy_24 : decode cX0_takeEnergy 24 = .ok (.aload_n 0, 1) := by decide +kernel
theorem dX0_takeEnergy_25 : decode cX0_takeEnergy 25 = .ok (.invokevirtual 60, 3) := by decide +kernel
theorem dX0_takeEnergy_28 : decode cX0_takeEnergy 28 = .ok (.return_, 1) := by decide +kernel
theorem dX1_init_0 : decode cX1_init 0 = .ok (.aload_n 0, 1) := by decide +kernel
theorem dX1_init_1 : decode cX1_init 1 = .ok (.invokespecial 3, 3) := by decide +kernel
theorem dX1_init_4 : decode cX1_init 4 = .ok (.aload_n 0, 1) := by decide +kernel
theorem dX1_init_5 : decode cX1_init 5 = .ok (.sipush 800, 3) := by decide +kernel
theorem dX1_init_8 : decode cX1_init 8 = .ok (.newarray .byte, 2) := by decide +kernel
theorem dX1_init_10 : decode cX1_init 10 = .ok (.putfield 11, 3) := by decide +kernel
theorem dX1_init_13 : decode cX1_init 13 = .ok (.return_, 1) := by decide +kernel
theorem dX1_clear_0 : decode cX1_clear 0 = .ok (.aload_n 0, 1) := by decide +kernel
theorem dX1_clear_1 : decode cX1_clear 1 = .ok (.iconst 0, 1) := by decide +kernel
theorem dX1_clear_2 : decode cX1_clear 2 = .ok (.putfield 15, 3) := by decide +kernel
theorem dX1_clear_5 : decode cX1_clear 5 = .ok (.return_, 1) := by decide +kernel
theorem dX1_writeLine_0 : decode cX1_writeLine 0 = .ok (.aload_n 0, 1) := by decide +kernel
theorem dX1_writeLine_1 : decode cX1_writeLine 1 = .ok (.aload_n 2, 1) := by decide +kernel
theorem dX1_writeLine_2 : decode cX1_writeLine 2 = .ok (.getfield 19, 3) := by decide +kernel
theorem dX1_writeLine_5 : decode cX1_writeLine 5 = .ok (.invokevirtual 25, 3) := by decide +kernel
theorem dX1_writeLine_8 : decode cX1_writeLine 8 = .ok (.aload_n 0, 1) := by decide +kernel
theorem dX1_writeLine_9 : decode cX1_writeLine 9 = .ok (.bipush 32, 2) := by decide +kernel
theorem dX1_writeLine_11 : decode cX1_writeLine 11 = .ok (.invokevirtual 29, 3) := by decide +kernel
theorem dX1_writeLine_14 : decode cX1_writeLine 14 = .ok (.aload_n 0, 1) := by decide +kernel
theorem dX1_writeLine_15 : decode cX1_writeLine 15 = .ok (.aload_n 2, 1) := by decide +kernel
theorem dX1_writeLine_16 : decode cX1_writeLine 16 = .ok (.getfield 33, 3) := by decide +kernel
theorem dX1_writeLine_19 : decode cX1_writeLine 19 = .ok (.invokestatic 36, 3) := by decide +kernel
theorem dX1_writeLine_22 : decode cX1_writeLine 22 = .ok (.invokevirtual 40, 3) := by decide +kernel
theorem dX1_writeLine_25 : decode cX1_writeLine 25 = .ok (.aload_n 0, 1) := by decide +kernel
theorem dX1_writeLine_26 : decode cX1_writeLine 26 = .ok (.bipush 32, 2) := by decide +kernel
theorem dX1_writeLine_28 : decode cX1_writeLine 28 = .ok (.invokevirtual 29, 3) := by decide +kernel
theorem dX1_writeLine_31 : decode cX1_writeLine 31 = .ok (.aload_n 0, 1) := by decide +kernel
theorem dX1_writeLine_32 : decode cX1_writeLine 32 = .ok (.aload_n 2, 1) := by decide +kernel
theorem dX1_writeLine_33 : decode cX1_writeLine 33 = .ok (.getfield 44, 3) := by decide +kernel
theorem dX1_writeLine_36 : decode cX1_writeLine 36 = .ok (.invokevirtual 47, 3) := by decide +kernel
theorem dX1_writeLine_39 : decode cX1_writeLine 39 = .ok (.aload_n 0, 1) := by decide +kernel
theorem dX1_writeLine_40 : decode cX1_writeLine 40 = .ok (.bipush 32, 2) := by decide +kernel
theorem dX1_writeLine_42 : decode cX1_writeLine 42 = .ok (.invokevirtual 29, 3) := by decide +kernel
theorem dX1_writeLine_45 : decode cX1_writeLine 45 = .ok (.aload_n 0, 1) := by decide +kernel
theorem dX1_writeLine_46 : decode cX1_writeLine 46 = .ok (.aload_n 2, 1) := by decide +kernel
theorem dX1_writeLine_47 : decode cX1_writeLine 47 = .ok (.getfield 50, 3) := by decide +kernel
theorem dX1_writeLine_50 : decode cX1_writeLine 50 = .ok (.invokevirtual 47, 3) := by decide +kernel
theorem dX1_writeLine_53 : decode cX1_writeLine 53 = .ok (.aload_n 1, 1) := by decide +kernel
theorem dX1_writeLine_54 : decode cX1_writeLine 54 = .ok (.aload_n 2, 1) := by decide +kernel
theorem dX1_writeLine_55 : decode cX1_writeLine 55 = .ok (.invokevirtual 53, 3) := by decide +kernel
theorem dX1_writeLine_58 : decode cX1_writeLine 58 = .ok (.istore_n 3, 1) := by decide +kernel
theorem dX1_writeLine_59 : decode cX1_writeLine 59 = .ok (.iconst 0, 1) := by decide +kernel
theorem dX1_writeLine_60 : decode cX1_writeLine 60 = .ok (.istore 4, 2) := by decide +kernel
theorem dX1_writeLine_62 : decode cX1_writeLine 62 = .ok (.iload 4, 2) := by decide +kernel
theorem dX1_writeLine_64 : decode cX1_writeLine 64 = .ok (.aload_n 1, 1) := by decide +kernel
theorem dX1_writeLine_65 : decode cX1_writeLine 65 = .ok (.getfield 59, 3) := by decide +kernel
theorem dX1_writeLine_68 : decode cX1_writeLine 68 = .ok (.if_icmp .ge 44, 3) := by decide +kernel
theorem dX1_writeLine_71 : decode cX1_writeLine 71 = .ok (.iload_n 3, 1) := by decide +kernel
theorem dX1_writeLine_72 : decode cX1_writeLine 72 = .ok (.iload 4, 2) := by decide +kernel
theorem dX1_writeLine_74 : decode cX1_writeLine 74 = .ok (.invokestatic 62, 3) := by decide +kernel
theorem dX1_writeLine_77 : decode cX1_writeLine 77 = .ok (.ifCond .eq 29, 3) := by decide +kernel
theorem dX1_writeLine_80 : decode cX1_writeLine 80 = .ok (.aload_n 0, 1) := by decide +kernel
theorem dX1_writeLine_81 : decode cX1_writeLine 81 = .ok (.bipush 32, 2) := by decide +kernel
theorem dX1_writeLine_83 : decode cX1_writeLine 83 = .ok (.invokevirtual 29, 3) := by decide +kernel
theorem dX1_writeLine_86 : decode cX1_writeLine 86 = .ok (.aload_n 0, 1) := by decide +kernel
theorem dX1_writeLine_87 : decode cX1_writeLine 87 = .ok (.bipush 43, 2) := by decide +kernel
theorem dX1_writeLine_89 : decode cX1_writeLine 89 = .ok (.invokevirtual 29, 3) := by decide +kernel
theorem dX1_writeLine_92 : decode cX1_writeLine 92 = .ok (.aload_n 0, 1) := by decide +kernel
theorem dX1_writeLine_93 : decode cX1_writeLine 93 = .ok (.aload_n 1, 1) := by decide +kernel
theorem dX1_writeLine_94 : decode cX1_writeLine 94 = .ok (.getfield 66, 3) := by decide +kernel
theorem dX1_writeLine_97 : decode cX1_writeLine 97 = .ok (.iload 4, 2) := by decide +kernel
theorem dX1_writeLine_99 : decode cX1_writeLine 99 = .ok (.aaload, 1) := by decide +kernel
theorem dX1_writeLine_100 : decode cX1_writeLine 100 = .ok (.getfield 19, 3) := by decide +kernel
theorem dX1_writeLine_103 : decode cX1_writeLine 103 = .ok (.invokevirtual 25, 3) := by decide +kernel
theorem dX1_writeLine_106 : decode cX1_writeLine 106 = .ok (.iinc 4 1, 3) := by decide +kernel
theorem dX1_writeLine_109 : decode cX1_writeLine 109 = .ok (.goto (-47), 3) := by decide +kernel
theorem dX1_writeLine_112 : decode cX1_writeLine 112 = .ok (.aload_n 0, 1) := by decide +kernel
theorem dX1_writeLine_113 : decode cX1_writeLine 113 = .ok (.bipush 10, 2) := by decide +kernel
theorem dX1_writeLine_115 : decode cX1_writeLine 115 = .ok (.invokevirtual 29, 3) := by decide +kernel
theorem dX1_writeLine_118 : decode cX1_writeLine 118 = .ok (.return_, 1) := by decide +kernel
theorem dX1_stateWord_0 : decode cX1_stateWord 0 = .ok (.iload_n 0, 1) := by decide +kernel
theorem dX1_stateWord_1 : decode cX1_stateWord 1 = .ok (.tableswitch 43 0 3 #[31, 34, 37, 40], 31) := by decide +kernel
theorem dX1_stateWord_32 : decode cX1_stateWord 32 = .ok (.ldc 70, 2) := by decide +kernel
theorem dX1_stateWord_34 : decode cX1_stateWord 34 = .ok (.areturn, 1) := by decide +kernel
theorem dX1_stateWord_35 : decode cX1_stateWord 35 = .ok (.ldc 72, 2) := by decide +kernel
theorem dX1_stateWord_37 : decode cX1_stateWord 37 = .ok (.areturn, 1) := by decide +kernel
theorem dX1_stateWord_38 : decode cX1_stateWord 38 = .ok (.ldc 74, 2) := by decide +kernel
theorem dX1_stateWord_40 : decode cX1_stateWord 40 = .ok (.areturn, 1) := by decide +kernel
theorem dX1_stateWord_41 : decode cX1_stateWord 41 = .ok (.ldc 76, 2) := by decide +kernel
theorem dX1_stateWord_43 : decode cX1_stateWord 43 = .ok (.areturn, 1) := by decide +kernel
theorem dX1_stateWord_44 : decode cX1_stateWord 44 = .ok (.ldc 78, 2) := by decide +kernel
theorem dX1_stateWord_46 : decode cX1_stateWord 46 = .ok (.areturn, 1) := by decide +kernel
theorem dX1_write_0 : decode cX1_write 0 = .ok (.aload_n 0, 1) := by decide +kernel
theorem dX1_write_1 : decode cX1_write 1 = .ok (.getfield 15, 3) := by decide +kernel
theorem dX1_write_4 : decode cX1_write 4 = .ok (.sipush 800, 3) := by decide +kernel
theorem dX1_write_7 : decode cX1_write 7 = .ok (.if_icmp .ge 24, 3) := by decide +kernel
theorem dX1_write_10 : decode cX1_write 10 = .ok (.aload_n 0, 1) := by decide +kernel
theorem dX1_write_11 : decode cX1_write 11 = .ok (.getfield 11, 3) := by decide +kernel
theorem dX1_write_14 : decode cX1_write 14 = .ok (.aload_n 0, 1) := by decide +kernel
theorem dX1_write_15 : decode cX1_write 15 = .ok (.getfield 15, 3) := by decide +kernel
theorem dX1_write_18 : decode cX1_write 18 = .ok (.iload_n 1, 1) := by decide +kernel
theorem dX1_write_19 : decode cX1_write 19 = .ok (.i2b, 1) := by decide +kernel
theorem dX1_write_20 : decode cX1_write 20 = .ok (.bastore, 1) := by decide +kernel
theorem dX1_write_21 : decode cX1_write 21 = .ok (.aload_n 0, 1) := by decide +kernel
theorem dX1_write_22 : decode cX1_write 22 = .ok (.dup, 1) := by decide +kernel
theorem dX1_write_23 : decode cX1_write 23 = .ok (.getfield 15, 3) := by decide +kernel
theorem dX1_write_26 : decode cX1_write 26 = .ok (.iconst 1, 1) := by decide +kernel
theorem dX1_write_27 : decode cX1_write 27 = .ok (.iadd, 1) := by decide +kernel
theorem dX1_write_28 : decode cX1_write 28 = .ok (.putfield 15, 3) := by decide +kernel
theorem dX1_write_31 : decode cX1_write 31 = .ok (.return_, 1) := by decide +kernel
theorem dX1_writeWord_0 : decode cX1_writeWord 0 = .ok (.iconst 0, 1) := by decide +kernel
theorem dX1_writeWord_1 : decode cX1_writeWord 1 = .ok (.istore_n 2, 1) := by decide +kernel
theorem dX1_writeWord_2 : decode cX1_writeWord 2 = .ok (.iload_n 2, 1) := by decide +kernel
theorem dX1_writeWord_3 : decode cX1_writeWord 3 = .ok (.aload_n 1, 1) := by decide +kernel
theorem dX1_writeWord_4 : decode cX1_writeWord 4 = .ok (.invokevirtual 80, 3) := by decide +kernel
theorem dX1_writeWord_7 : decode cX1_writeWord 7 = .ok (.if_icmp .ge 18, 3) := by decide +kernel
theorem dX1_writeWord_10 : decode cX1_writeWord 10 = .ok (.aload_n 0, 1) := by decide +kernel
theorem dX1_writeWord_11 : decode cX1_writeWord 11 = .ok (.aload_n 1, 1) := by decide +kernel
theorem dX1_writeWord_12 : decode cX1_writeWord 12 = .ok (.iload_n 2, 1) := by decide +kernel
theorem dX1_writeWord_13 : decode cX1_writeWord 13 = .ok (.invokevirtual 85, 3) := by decide +kernel
theorem dX1_writeWord_16 : decode cX1_writeWord 16 = .ok (.invokevirtual 29, 3) := by decide +kernel
theorem dX1_writeWord_19 : decode cX1_writeWord 19 = .ok (.iinc 2 1, 3) := by decide +kernel
theorem dX1_writeWord_22 : decode cX1_writeWord 22 = .ok (.goto (-20), 3) := by decide +kernel
theorem dX1_writeWord_25 : decode cX1_writeWord 25 = .ok (.return_, 1) := by decide +kernel
theorem dX1_writeName_0 : decode cX1_writeName 0 = .ok (.iconst 0, 1) := by decide +kernel
theorem dX1_writeName_1 : decode cX1_writeName 1 = .ok (.istore_n 3, 1) := by decide +kernel
theorem dX1_writeName_2 : decode cX1_writeName 2 = .ok (.iload_n 3, 1) := by decide +kernel
theorem dX1_writeName_3 : decode cX1_writeName 3 = .ok (.bipush 8, 2) := by decide +kernel
theorem dX1_writeName_5 : decode cX1_writeName 5 = .ok (.if_icmp .ge 26, 3) := by decide +kernel
theorem dX1_writeName_8 : decode cX1_writeName 8 = .ok (.lload_n 1, 1) := by decide +kernel
theorem dX1_writeName_9 : decode cX1_writeName 9 = .ok (.iload_n 3, 1) := by decide +kernel
theorem dX1_writeName_10 : decode cX1_writeName 10 = .ok (.invokestatic 89, 3) := by decide +kernel
theorem dX1_writeName_13 : decode cX1_writeName 13 = .ok (.ifCond .eq 18, 3) := by decide +kernel
theorem dX1_writeName_16 : decode cX1_writeName 16 = .ok (.aload_n 0, 1) := by decide +kernel
theorem dX1_writeName_17 : decode cX1_writeName 17 = .ok (.lload_n 1, 1) := by decide +kernel
theorem dX1_writeName_18 : decode cX1_writeName 18 = .ok (.iload_n 3, 1) := by decide +kernel
theorem dX1_writeName_19 : decode cX1_writeName 19 = .ok (.invokestatic 89, 3) := by decide +kernel
theorem dX1_writeName_22 : decode cX1_writeName 22 = .ok (.invokevirtual 29, 3) := by decide +kernel
theorem dX1_writeName_25 : decode cX1_writeName 25 = .ok (.iinc 3 1, 3) := by decide +kernel
theorem dX1_writeName_28 : decode cX1_writeName 28 = .ok (.goto (-26), 3) := by decide +kernel
theorem dX1_writeName_31 : decode cX1_writeName 31 = .ok (.return_, 1) := by decide +kernel
theorem dX1_writeNumber_0 : decode cX1_writeNumber 0 = .ok (.iload_n 1, 1) := by decide +kernel
theorem dX1_writeNumber_1 : decode cX1_writeNumber 1 = .ok (.istore_n 2, 1) := by decide +kernel
theorem dX1_writeNumber_2 : decode cX1_writeNumber 2 = .ok (.iconst 0, 1) := by decide +kernel
theorem dX1_writeNumber_3 : decode cX1_writeNumber 3 = .ok (.istore_n 3, 1) := by decide +kernel
theorem dX1_writeNumber_4 : decode cX1_writeNumber 4 = .ok (.sipush 1000, 3) := by decide +kernel
theorem dX1_writeNumber_7 : decode cX1_writeNumber 7 = .ok (.istore 4, 2) := by decide +kernel
theorem dX1_writeNumber_9 : decode cX1_writeNumber 9 = .ok (.iload 4, 2) := by decide +kernel
theorem dX1_writeNumber_11 : decode cX1_writeNumber 11 = .ok (.ifCond .le 61, 3) := by decide +kernel
theorem dX1_writeNumber_14 : decode cX1_writeNumber 14 = .ok (.iload_n 2, 1) := by decide +kernel
theorem dX1_writeNumber_15 : decode cX1_writeNumber 15 = .ok (.iload 4, 2) := by decide +kernel
theorem dX1_writeNumber_17 : decode cX1_writeNumber 17 = .ok (.idiv, 1) := by decide +kernel
theorem dX1_writeNumber_18 : decode cX1_writeNumber 18 = .ok (.istore 5, 2) := by decide +kernel
theorem dX1_writeNumber_20 : decode cX1_writeNumber 20 = .ok (.iload_n 2, 1) := by decide +kernel
theorem dX1_writeNumber_21 : decode cX1_writeNumber 21 = .ok (.iload 5, 2) := by decide +kernel
theorem dX1_writeNumber_23 : decode cX1_writeNumber 23 = .ok (.iload 4, 2) := by decide +kernel
theorem dX1_writeNumber_25 : decode cX1_writeNumber 25 = .ok (.imul, 1) := by decide +kernel
theorem dX1_writeNumber_26 : decode cX1_writeNumber 26 = .ok (.isub, 1) := by decide +kernel
theorem dX1_writeNumber_27 : decode cX1_writeNumber 27 = .ok (.istore_n 2, 1) := by decide +kernel
theorem dX1_writeNumber_28 : decode cX1_writeNumber 28 = .ok (.iload_n 3, 1) := by decide +kernel
theorem dX1_writeNumber_29 : decode cX1_writeNumber 29 = .ok (.ifCond .ne 14, 3) := by decide +kernel
theorem dX1_writeNumber_32 : decode cX1_writeNumber 32 = .ok (.iload 5, 2) := by decide +kernel
theorem dX1_writeNumber_34 : decode cX1_writeNumber 34 = .ok (.ifCond .gt 9, 3) := by decide +kernel
theorem dX1_writeNumber_37 : decode cX1_writeNumber 37 = .ok (.iload 4, 2) := by decide +kernel
theorem dX1_writeNumber_39 : decode cX1_writeNumber 39 = .ok (.iconst 1, 1) := by decide +kernel
theorem dX1_writeNumber_40 : decode cX1_writeNumber 40 = .ok (.if_icmp .ne 7, 3) := by decide +kernel
theorem dX1_writeNumber_43 : decode cX1_writeNumber 43 = .ok (.iconst 1, 1) := by decide +kernel
theorem dX1_writeNumber_44 : decode cX1_writeNumber 44 = .ok (.goto 4, 3) := by decide +kernel
theorem dX1_writeNumber_47 : decode cX1_writeNumber 47 = .ok (.iconst 0, 1) := by decide +kernel
theorem dX1_writeNumber_48 : decode cX1_writeNumber 48 = .ok (.istore_n 3, 1) := by decide +kernel
theorem dX1_writeNumber_49 : decode cX1_writeNumber 49 = .ok (.iload_n 3, 1) := by decide +kernel
theorem dX1_writeNumber_50 : decode cX1_writeNumber 50 = .ok (.ifCond .eq 12, 3) := by decide +kernel
theorem dX1_writeNumber_53 : decode cX1_writeNumber 53 = .ok (.aload_n 0, 1) := by decide +kernel
theorem dX1_writeNumber_54 : decode cX1_writeNumber 54 = .ok (.bipush 48, 2) := by decide +kernel
theorem dX1_writeNumber_56 : decode cX1_writeNumber 56 = .ok (.iload 5, 2) := by decide +kernel
theorem dX1_writeNumber_58 : decode cX1_writeNumber 58 = .ok (.iadd, 1) := by decide +kernel
theorem dX1_writeNumber_59 : decode cX1_writeNumber 59 = .ok (.invokevirtual 29, 3) := by decide +kernel
theorem dX1_writeNumber_62 : decode cX1_writeNumber 62 = .ok (.iload 4, 2) := by decide +kernel
theorem dX1_writeNumber_64 : decode cX1_writeNumber 64 = .ok (.bipush 10, 2) := by decide +kernel
theorem dX1_writeNumber_66 : decode cX1_writeNumber 66 = .ok (.idiv, 1) := by decide +kernel
theorem dX1_writeNumber_67 : decode cX1_writeNumber 67 = .ok (.istore 4, 2) := by decide +kernel
theorem dX1_writeNumber_69 : decode cX1_writeNumber 69 = .ok (.goto (-60), 3) := by decide +kernel
theorem dX1_writeNumber_72 : decode cX1_writeNumber 72 = .ok (.return_, 1) := by decide +kernel
theorem dX2_init_0 : decode cX2_init 0 = .ok (.aload_n 0, 1) := by decide +kernel
theorem dX2_init_1 : decode cX2_init 1 = .ok (.invokespecial 5, 3) := by decide +kernel
theorem dX2_init_4 : decode cX2_init 4 = .ok (.aload_n 0, 1) := by decide +kernel
theorem dX2_init_5 : decode cX2_init 5 = .ok (.new 11, 3) := by decide +kernel
theorem dX2_init_8 : decode cX2_init 8 = .ok (.dup, 1) := by decide +kernel
theorem dX2_init_9 : decode cX2_init 9 = .ok (.invokespecial 13, 3) := by decide +kernel
theorem dX2_init_12 : decode cX2_init 12 = .ok (.putfield 14, 3) := by decide +kernel
theorem dX2_init_15 : decode cX2_init 15 = .ok (.aload_n 0, 1) := by decide +kernel
theorem dX2_init_16 : decode cX2_init 16 = .ok (.bipush 60, 2) := by decide +kernel
theorem dX2_init_18 : decode cX2_init 18 = .ok (.newarray .int, 2) := by decide +kernel
theorem dX2_init_20 : decode cX2_init 20 = .ok (.putfield 18, 3) := by decide +kernel
theorem dX2_init_23 : decode cX2_init 23 = .ok (.aload_n 0, 1) := by decide +kernel
theorem dX2_init_24 : decode cX2_init 24 = .ok (.bipush 60, 2) := by decide +kernel
theorem dX2_init_26 : decode cX2_init 26 = .ok (.newarray .int, 2) := by decide +kernel
theorem dX2_init_28 : decode cX2_init 28 = .ok (.putfield 22, 3) := by decide +kernel
theorem dX2_init_31 : decode cX2_init 31 = .ok (.aload_n 0, 1) := by decide +kernel
theorem dX2_init_32 : decode cX2_init 32 = .ok (.bipush 60, 2) := by decide +kernel
theorem dX2_init_34 : decode cX2_init 34 = .ok (.newarray .int, 2) := by decide +kernel
theorem dX2_init_36 : decode cX2_init 36 = .ok (.putfield 25, 3) := by decide +kernel
theorem dX2_init_39 : decode cX2_init 39 = .ok (.aload_n 0, 1) := by decide +kernel
theorem dX2_init_40 : decode cX2_init 40 = .ok (.iconst 2, 1) := by decide +kernel
theorem dX2_init_41 : decode cX2_init 41 = .ok (.newarray .int, 2) := by decide +kernel
theorem dX2_init_43 : decode cX2_init 43 = .ok (.putfield 28, 3) := by decide +kernel
theorem dX2_init_46 : decode cX2_init 46 = .ok (.aload_n 0, 1) := by decide +kernel
theorem dX2_init_47 : decode cX2_init 47 = .ok (.iconst 2, 1) := by decide +kernel
theorem dX2_init_48 : decode cX2_init 48 = .ok (.newarray .int, 2) := by decide +kernel
theorem dX2_init_50 : decode cX2_init 50 = .ok (.putfield 31, 3) := by decide +kernel
theorem dX2_init_53 : decode cX2_init 53 = .ok (.return_, 1) := by decide +kernel
theorem dX2_readAll_0 : decode cX2_readAll 0 = .ok (.aload_n 0, 1) := by decide +kernel
theorem dX2_readAll_1 : decode cX2_readAll 1 = .ok (.iconst 0, 1) := by decide +kernel
theorem dX2_readAll_2 : decode cX2_readAll 2 = .ok (.putfield 34, 3) := by decide +kernel
theorem dX2_readAll_5 : decode cX2_readAll 5 = .ok (.aload_n 0, 1) := by decide +kernel
theorem dX2_readAll_6 : decode cX2_readAll 6 = .ok (.iconst 0, 1) := by decide +kernel
theorem dX2_readAll_7 : decode cX2_readAll 7 = .ok (.putfield 38, 3) := by decide +kernel
theorem dX2_readAll_10 : decode cX2_readAll 10 = .ok (.aload_n 0, 1) := by decide +kernel
theorem dX2_readAll_11 : decode cX2_readAll 11 = .ok (.iconst 0, 1) := by decide +kernel
theorem dX2_readAll_12 : decode cX2_readAll 12 = .ok (.putfield 41, 3) := by decide +kernel
theorem dX2_readAll_15 : decode cX2_readAll 15 = .ok (.iconst 0, 1) := by decide +kernel
theorem dX2_readAll_16 : decode cX2_readAll 16 = .ok (.istore_n 2, 1) := by decide +kernel
theorem dX2_readAll_17 : decode cX2_readAll 17 = .ok (.iload_n 2, 1) := by decide +kernel
theorem dX2_readAll_18 : decode cX2_readAll 18 = .ok (.sipush 700, 3) := by decide +kernel
theorem dX2_readAll_21 : decode cX2_readAll 21 = .ok (.if_icmp .gt 36, 3) := by decide +kernel
theorem dX2_readAll_24 : decode cX2_readAll 24 = .ok (.aload_n 0, 1) := by decide +kernel
theorem dX2_readAll_25 : decode cX2_readAll 25 = .ok (.getfield 41, 3) := by decide +kernel
theorem dX2_readAll_28 : decode cX2_readAll 28 = .ok (.ifCond .gt 13, 3) := by decide +kernel
theorem dX2_readAll_31 : decode cX2_readAll 31 = .ok (.aload_n 0, 1) := by decide +kernel
theorem dX2_readAll_32 : decode cX2_readAll 32 = .ok (.getfield 14, 3) := by decide +kernel
theorem dX2_readAll_35 : decode cX2_readAll 35 = .ok (.getfield 44, 3) := by decide +kernel
theorem dX2_readAll_38 : decode cX2_readAll 38 = .ok (.ifCond .eq 19, 3) := by decide +kernel
theorem dX2_readAll_41 : decode cX2_readAll 41 = .ok (.aload_n 0, 1) := by decide +kernel
theorem dX2_readAll_42 : decode cX2_readAll 42 = .ok (.aload_n 1, 1) := by decide +kernel
theorem dX2_readAll_43 : decode cX2_readAll 43 = .ok (.invokevirtual 47, 3) := by decide +kernel
theorem dX2_readAll_46 : decode cX2_readAll 46 = .ok (.ifCond .ne 5, 3) := by decide +kernel
theorem dX2_readAll_49 : decode cX2_readAll 49 = .ok (.iconst 0, 1) := by decide +kernel
theorem dX2_readAll_50 : decode cX2_readAll 50 = .ok (.ireturn, 1) := by decide +kernel
theorem dX2_readAll_51 : decode cX2_readAll 51 = .ok (.iinc 2 1, 3) := by decide +kernel
theorem dX2_readAll_54 : decode cX2_readAll 54 = .ok (.goto (-37), 3) := by decide +kernel
theorem dX2_readAll_57 : decode cX2_readAll 57 = .ok (.iconst 1, 1) := by decide +kernel
theorem dX2_readAll_58 : decode cX2_readAll 58 = .ok (.ireturn, 1) := by decide +kernel
theorem dX2_readStep_0 : decode cX2_readStep 0 = .ok (.aload_n 0, 1) := by decide +kernel
theorem dX2_readStep_1 : decode cX2_readStep 1 = .ok (.getfield 41, 3) := by decide +kernel
theorem dX2_readStep_4 : decode cX2_readStep 4 = .ok (.ifCond .le 20, 3) := by decide +kernel
theorem dX2_readStep_7 : decode cX2_readStep 7 = .ok (.aload_n 0, 1) := by decide +kernel
theorem dX2_readStep_8 : decode cX2_readStep 8 = .ok (.getfield 14, 3) := by decide +kernel
theorem dX2_readStep_11 : decode cX2_readStep 11 = .ok (.getfield 44, 3) := by decide +kernel
theorem dX2_readStep_14 : decode cX2_readStep 14 = .ok (.bipush 41, 2) := by decide +kernel
theorem dX2_readStep_16 : decode cX2_readStep 16 = .ok (.if_icmp .ne 8, 3) := by decide +kernel
theorem dX2_readStep_19 : decode cX2_readStep 19 = .ok (.aload_n 0, 1) := by decide +kernel
theorem dX2_readStep_20 : decode cX2_readStep 20 = .ok (.invokevirtual 51, 3) := by decide +kernel
theorem dX2_readStep_23 : decode cX2_readStep 23 = .ok (.ireturn, 1) := by decide +kernel
theorem dX2_readStep_24 : decode cX2_readStep 24 = .ok (.aload_n 0, 1) := by decide +kernel
theorem dX2_readStep_25 : decode cX2_readStep 25 = .ok (.invokevirtual 55, 3) := by decide +kernel
theorem dX2_readStep_28 : decode cX2_readStep 28 = .ok (.istore_n 2, 1) := by decide +kernel
theorem dX2_readStep_29 : decode cX2_readStep 29 = .ok (.iload_n 2, 1) := by decide +kernel
theorem dX2_readStep_30 : decode cX2_readStep 30 = .ok (.iconst (-1), 1) := by decide +kernel
theorem dX2_readStep_31 : decode cX2_readStep 31 = .ok (.if_icmp .ne 12, 3) := by decide +kernel
theorem dX2_readStep_34 : decode cX2_readStep 34 = .ok (.aload_n 0, 1) := by decide +kernel
theorem dX2_readStep_35 : decode cX2_readStep 35 = .ok (.getfield 14, 3) := by decide +kernel
theorem dX2_readStep_38 : decode cX2_readStep 38 = .ok (.iconst 1, 1) := by decide +kernel
theorem dX2_readStep_39 : decode cX2_readStep 39 = .ok (.invokevirtual 59, 3) := by decide +kernel
theorem dX2_readStep_42 : decode cX2_readStep 42 = .ok (.ireturn, 1) := by decide +kernel
theorem dX2_readStep_43 : decode cX2_readStep 43 = .ok (.iload_n 2, 1) := by decide +kernel
theorem dX2_readStep_44 : decode cX2_readStep 44 = .ok (.bipush 7, 2) := by decide +kernel
theorem dX2_readStep_46 : decode cX2_readStep 46 = .ok (.if_icmp .ne 20, 3) := by decide +kernel
theorem dX2_readStep_49 : decode cX2_readStep 49 = .ok (.aload_n 0, 1) := by decide +kernel
theorem dX2_readStep_50 : decode cX2_readStep 50 = .ok (.getfield 41, 3) := by decide +kernel
theorem dX2_readStep_53 : decode cX2_readStep 53 = .ok (.iconst 2, 1) := by decide +kernel
theorem dX2_readStep_54 : decode cX2_readStep 54 = .ok (.if_icmp .lt 12, 3) := by decide +kernel
theorem dX2_readStep_57 : decode cX2_readStep 57 = .ok (.aload_n 0, 1) := by decide +kernel
theorem dX2_readStep_58 : decode cX2_readStep 58 = .ok (.getfield 14, 3) := by decide +kernel
theorem dX2_readStep_61 : decode cX2_readStep 61 = .ok (.iconst 3, 1) := by decide +kernel
theorem dX2_readStep_62 : decode cX2_readStep 62 = .ok (.invokevirtual 59, 3) := by decide +kernel
theorem dX2_readStep_65 : decode cX2_readStep 65 = .ok (.ireturn, 1) := by decide +kernel
theorem dX2_readStep_66 : decode cX2_readStep 66 = .ok (.aload_n 0, 1) := by decide +kernel
theorem dX2_readStep_67 : decode cX2_readStep 67 = .ok (.getfield 38, 3) := by decide +kernel
theorem dX2_readStep_70 : decode cX2_readStep 70 = .ok (.bipush 30, 2) := by decide +kernel
theorem dX2_readStep_72 : decode cX2_readStep 72 = .ok (.if_icmp .lt 12, 3) := by decide +kernel
theorem dX2_readStep_75 : decode cX2_readStep 75 = .ok (.aload_n 0, 1) := by decide +kernel
theorem dX2_readStep_76 : decode cX2_readStep 76 = .ok (.getfield 14, 3) := by decide +kernel
theorem dX2_readStep_79 : decode cX2_readStep 79 = .ok (.iconst 5, 1) := by decide +kernel
theorem dX2_readStep_80 : decode cX2_readStep 80 = .ok (.invokevirtual 59, 3) := by decide +kernel
theorem dX2_readStep_83 : decode cX2_readStep 83 = .ok (.ireturn, 1) := by decide +kernel
theorem dX2_readStep_84 : decode cX2_readStep 84 = .ok (.aload_n 0, 1) := by decide +kernel
theorem dX2_readStep_85 : decode cX2_readStep 85 = .ok (.dup, 1) := by decide +kernel
theorem dX2_readStep_86 : decode cX2_readStep 86 = .ok (.getfield 38, 3) := by decide +kernel
theorem dX2_readStep_89 : decode cX2_readStep 89 = .ok (.iconst 1, 1) := by decide +kernel
theorem dX2_readStep_90 : decode cX2_readStep 90 = .ok (.iadd, 1) := by decide +kernel
theorem dX2_readStep_91 : decode cX2_readStep 91 = .ok (.putfield 38, 3) := by decide +kernel
theorem dX2_readStep_94 : decode cX2_readStep 94 = .ok (.aload_n 0, 1) := by decide +kernel
theorem dX2_readStep_95 : decode cX2_readStep 95 = .ok (.getfield 14, 3) := by decide +kernel
theorem dX2_readStep_98 : decode cX2_readStep 98 = .ok (.invokevirtual 63, 3) := by decide +kernel
theorem dX2_readStep_101 : decode cX2_readStep 101 = .ok (.iload_n 2, 1) := by decide +kernel
theorem dX2_readStep_102 : decode cX2_readStep 102 = .ok (.bipush 7, 2) := by decide +kernel
theorem dX2_readStep_104 : decode cX2_readStep 104 = .ok (.if_icmp .ne 10, 3) := by decide +kernel
theorem dX2_readStep_107 : decode cX2_readStep 107 = .ok (.aload_n 0, 1) := by decide +kernel
theorem dX2_readStep_108 : decode cX2_readStep 108 = .ok (.invokevirtual 66, 3) := by decide +kernel
theorem dX2_readStep_111 : decode cX2_readStep 111 = .ok (.goto 29, 3) := by decide +kernel
theorem dX2_readStep_114 : decode cX2_readStep 114 = .ok (.aload_n 0, 1) := by decide +kernel
theorem dX2_readStep_115 : decode cX2_readStep 115 = .ok (.aload_n 1, 1) := by decide +kernel
theorem dX2_readStep_116 : decode cX2_readStep 116 = .ok (.iload_n 2, 1) := by decide +kernel
theorem dX2_readStep_117 : decode cX2_readStep 117 = .ok (.invokevirtual 69, 3) := by decide +kernel
theorem dX2_readStep_120 : decode cX2_readStep 120 = .ok (.ifCond .eq 19, 3) := by decide +kernel
theorem dX2_readStep_123 : decode cX2_readStep 123 = .ok (.aload_n 0, 1) := by decide +kernel
theorem dX2_readStep_124 : decode cX2_readStep 124 = .ok (.getfield 14, 3) := by decide +kernel
theorem dX2_readStep_127 : decode cX2_readStep 127 = .ok (.bipush 59, 2) := by decide +kernel
theorem dX2_readStep_129 : decode cX2_readStep 129 = .ok (.invokevirtual 73, 3) := by decide +kernel
theorem dX2_readStep_132 : decode cX2_readStep 132 = .ok (.ifCond .eq 7, 3) := by decide +kernel
theorem dX2_readStep_135 : decode cX2_readStep 135 = .ok (.iconst 1, 1) := by decide +kernel
theorem dX2_readStep_136 : decode cX2_readStep 136 = .ok (.goto 4, 3) := by decide +kernel
theorem dX2_readStep_139 : decode cX2_readStep 139 = .ok (.iconst 0, 1) := by decide +kernel
theorem dX2_readStep_140 : decode cX2_readStep 140 = .ok (.ireturn, 1) := by decide +kernel
theorem dX2_kindHere_0 : decode cX2_kindHere 0 = .ok (.aload_n 0, 1) := by decide +kernel
theorem dX2_kindHere_1 : decode cX2_kindHere 1 = .ok (.getfield 14, 3) := by decide +kernel
theorem dX2_kindHere_4 : decode cX2_kindHere 4 = .ok (.ldc 77, 2) := by decide +kernel
theorem dX2_kindHere_6 : decode cX2_kindHere 6 = .ok (.invokevirtual 79, 3) := by decide +kernel
theorem dX2_kindHere_9 : decode cX2_kindHere 9 = .ok (.ifCond .eq 5, 3) := by decide +kernel
theorem dX2_kindHere_12 : decode cX2_kindHere 12 = .ok (.iconst 0, 1) := by decide +kernel
theorem dX2_kindHere_13 : decode cX2_kindHere 13 = .ok (.ireturn, 1) := by decide +kernel
theorem dX2_kindHere_14 : decode cX2_kindHere 14 = .ok (.aload_n 0, 1) := by decide +kernel
theorem dX2_kindHere_15 : decode cX2_kindHere 15 = .ok (.getfield 14, 3) := by decide +kernel
theorem dX2_kindHere_18 : decode cX2_kindHere 18 = .ok (.ldc 83, 2) := by decide +kernel
theorem dX2_kindHere_20 : decode cX2_kindHere 20 = .ok (.invokevirtual 79, 3) := by decide +kernel
theorem dX2_kindHere_23 : decode cX2_kindHere 23 = .ok (.ifCond .eq 5, 3) := by decide +kernel
theorem dX2_kindHere_26 : decode cX2_kindHere 26 = .ok (.iconst 1, 1) := by decide +kernel
theorem dX2_kindHere_27 : decode cX2_kindHere 27 = .ok (.ireturn, 1) := by decide +kernel
theorem dX2_kindHere_28 : decode cX2_kindHere 28 = .ok (.aload_n 0, 1) := by decide +kernel
theorem dX2_kindHere_29 : decode cX2_kindHere 29 = .ok (.getfield 14, 3) := by decide +kernel
theorem dX2_kindHere_32 : decode cX2_kindHere 32 = .ok (.ldc 85, 2) := by decide +kernel
theorem dX2_kindHere_34 : decode cX2_kindHere 34 = .ok (.invokevirtual 79, 3) := by decide +kernel
theorem dX2_kindHere_37 : decode cX2_kindHere 37 = .ok (.ifCond .eq 5, 3) := by decide +kernel
theorem dX2_kindHere_40 : decode cX2_kindHere 40 = .ok (.iconst 2, 1) := by decide +kernel
theorem dX2_kindHere_41 : decode cX2_kindHere 41 = .ok (.ireturn, 1) := by decide +kernel
theorem dX2_kindHere_42 : decode cX2_kindHere 42 = .ok (.aload_n 0, 1) := by decide +kernel
theorem dX2_kindHere_43 : decode cX2_kindHere 43 = .ok (.getfield 14, 3) := by decide +kernel
theorem dX2_kindHere_46 : decode cX2_kindHere 46 = .ok (.ldc 87, 2) := by decide +kernel
theorem dX2_kindHere_48 : decode cX2_kindHere 48 = .ok (.invokevirtual 79, 3) := by decide +kernel
theorem dX2_kindHere_51 : decode cX2_kindHere 51 = .ok (.ifCond .eq 5, 3) := by decide +kernel
theorem dX2_kindHere_54 : decode cX2_kindHere 54 = .ok (.iconst 3, 1) := by decide +kernel
theorem dX2_kindHere_55 : decode cX2_kindHere 55 = .ok (.ireturn, 1) := by decide +kernel
theorem dX2_kindHere_56 : decode cX2_kindHere 56 = .ok (.aload_n 0, 1) := by decide +kernel
theorem dX2_kindHere_57 : decode cX2_kindHere 57 = .ok (.getfield 14, 3) := by decide +kernel
theorem dX2_kindHere_60 : decode cX2_kindHere 60 = .ok (.ldc 89, 2) := by decide +kernel
theorem dX2_kindHere_62 : decode cX2_kindHere 62 = .ok (.invokevirtual 79, 3) := by decide +kernel
theorem dX2_kindHere_65 : decode cX2_kindHere 65 = .ok (.ifCond .eq 5, 3) := by decide +kernel
theorem dX2_kindHere_68 : decode cX2_kindHere 68 = .ok (.iconst 4, 1) := by decide +kernel
theorem dX2_kindHere_69 : decode cX2_kindHere 69 = .ok (.ireturn, 1) := by decide +kernel
theorem dX2_kindHere_70 : decode cX2_kindHere 70 = .ok (.aload_n 0, 1) := by decide +kernel
theorem dX2_kindHere_71 : decode cX2_kindHere 71 = .ok (.getfield 14, 3) := by decide +kernel
theorem dX2_kindHere_74 : decode cX2_kindHere 74 = .ok (.ldc 91, 2) := by decide +kernel
theorem dX2_kindHere_76 : decode cX2_kindHere 76 = .ok (.invokevirtual 79, 3) := by decide +kernel
theorem dX2_kindHere_79 : decode cX2_kindHere 79 = .ok (.ifCond .eq 5, 3) := by decide +kernel
theorem dX2_kindHere_82 : decode cX2_kindHere 82 = .ok (.iconst 5, 1) := by decide +kernel
theorem dX2_kindHere_83 : decode cX2_kindHere 83 = .ok (.ireturn, 1) := by decide +kernel
theorem dX2_kindHere_84 : decode cX2_kindHere 84 = .ok (.aload_n 0, 1) := by decide +kernel
theorem dX2_kindHere_85 : decode cX2_kindHere 85 = .ok (.getfield 14, 3) := by decide +kernel
theorem dX2_kindHere_88 : decode cX2_kindHere 88 = .ok (.ldc 93, 2) := by decide +kernel
theorem dX2_kindHere_90 : decode cX2_kindHere 90 = .ok (.invokevirtual 79, 3) := by decide +kernel
theorem dX2_kindHere_93 : decode cX2_kindHere 93 = .ok (.ifCond .eq 6, 3) := by decide +kernel
theorem dX2_kindHere_96 : decode cX2_kindHere 96 = .ok (.bipush 6, 2) := by decide +kernel
theorem dX2_kindHere_98 : decode cX2_kindHere 98 = .ok (.ireturn, 1) := by decide +kernel
theorem dX2_kindHere_99 : decode cX2_kindHere 99 = .ok (.aload_n 0, 1) := by decide +kernel
theorem dX2_kindHere_100 : decode cX2_kindHere 100 = .ok (.getfield 14, 3) := by decide +kernel
theorem dX2_kindHere_103 : decode cX2_kindHere 103 = .ok (.ldc 95, 2) := by decide +kernel
theorem dX2_kindHere_105 : decode cX2_kindHere 105 = .ok (.invokevirtual 79, 3) := by decide +kernel
theorem dX2_kindHere_108 : decode cX2_kindHere 108 = .ok (.ifCond .eq 8, 3) := by decide +kernel
theorem dX2_kindHere_111 : decode cX2_kindHere 111 = .ok (.bipush 7, 2) := by decide +kernel
theorem dX2_kindHere_113 : decode cX2_kindHere 113 = .ok (.goto 4, 3) := by decide +kernel
theorem dX2_kindHere_116 : decode cX2_kindHere 116 = .ok (.iconst (-1), 1) := by decide +kernel
theorem dX2_kindHere_117 : decode cX2_kindHere 117 = .ok (.ireturn, 1) := by decide +kernel
theorem dX2_readRepeat_0 : decode cX2_readRepeat 0 = .ok (.aload_n 0, 1) := by decide +kernel
theorem dX2_readRepeat_1 : decode cX2_readRepeat 1 = .ok (.getfield 14, 3) := by decide +kernel
theorem dX2_readRepeat_4 : decode cX2_readRepeat 4 = .ok (.iconst 1, 1) := by decide +kernel
theorem dX2_readRepeat_5 : decode cX2_readRepeat 5 = .ok (.bipush 20, 2) := by decide +kernel
theorem dX2_readRepeat_7 : decode cX2_readRepeat 7 = .ok (.invokevirtual 97, 3) := by decide +kernel
theorem dX2_readRepeat_10 : decode cX2_readRepeat 10 = .ok (.istore_n 1, 1) := by decide +kernel
theorem dX2_readRepeat_11 : decode cX2_readRepeat 11 = .ok (.iload_n 1, 1) := by decide +kernel
theorem dX2_readRepeat_12 : decode cX2_readRepeat 12 = .ok (.iconst (-1), 1) := by decide +kernel
theorem dX2_readRepeat_13 : decode cX2_readRepeat 13 = .ok (.if_icmp .eq 23, 3) := by decide +kernel
theorem dX2_readRepeat_16 : decode cX2_readRepeat 16 = .ok (.aload_n 0, 1) := by decide +kernel
theorem dX2_readRepeat_17 : decode cX2_readRepeat 17 = .ok (.getfield 14, 3) := by decide +kernel
theorem dX2_readRepeat_20 : decode cX2_readRepeat 20 = .ok (.bipush 40, 2) := by decide +kernel
theorem dX2_readRepeat_22 : decode cX2_readRepeat 22 = .ok (.invokevirtual 73, 3) := by decide +kernel
theorem dX2_readRepeat_25 : decode cX2_readRepeat 25 = .ok (.ifCond .eq 11, 3) := by decide +kernel
theorem dX2_readRepeat_28 : decode cX2_readRepeat 28 = .ok (.aload_n 0, 1) := by decide +kernel
theorem dX2_readRepeat_29 : decode cX2_readRepeat 29 = .ok (.getfield 41, 3) := by decide +kernel
theorem dX2_readRepeat_32 : decode cX2_readRepeat 32 = .ok (.iconst 2, 1) := by decide +kernel
theorem dX2_readRepeat_33 : decode cX2_readRepeat 33 = .ok (.if_icmp .lt 5, 3) := by decide +kernel
theorem dX2_readRepeat_36 : decode cX2_readRepeat 36 = .ok (.iconst 0, 1) := by decide +kernel
theorem dX2_readRepeat_37 : decode cX2_readRepeat 37 = .ok (.ireturn, 1) := by decide +kernel
theorem dX2_readRepeat_38 : decode cX2_readRepeat 38 = .ok (.aload_n 0, 1) := by decide +kernel
theorem dX2_readRepeat_39 : decode cX2_readRepeat 39 = .ok (.getfield 28, 3) := by decide +kernel
theorem dX2_readRepeat_42 : decode cX2_readRepeat 42 = .ok (.aload_n 0, 1) := by decide +kernel
theorem dX2_readRepeat_43 : decode cX2_readRepeat 43 = .ok (.getfield 41, 3) := by decide +kernel
theorem dX2_readRepeat_46 : decode cX2_readRepeat 46 = .ok (.aload_n 0, 1) := by decide +kernel
theorem dX2_readRepeat_47 : decode cX2_readRepeat 47 = .ok (.getfield 34, 3) := by decide +kernel
theorem dX2_readRepeat_50 : decode cX2_readRepeat 50 = .ok (.iastore, 1) := by decide +kernel
theorem dX2_readRepeat_51 : decode cX2_readRepeat 51 = .ok (.aload_n 0, 1) := by decide +kernel
theorem dX2_readRepeat_52 : decode cX2_readRepeat 52 = .ok (.dup, 1) := by decide +kernel
theorem dX2_readRepeat_53 : decode cX2_readRepeat 53 = .ok (.getfield 41, 3) := by decide +kernel
theorem dX2_readRepeat_56 : decode cX2_readRepeat 56 = .ok (.iconst 1, 1) := by decide +kernel
theorem dX2_readRepeat_57 : decode cX2_readRepeat 57 = .ok (.iadd, 1) := by decide +kernel
theorem dX2_readRepeat_58 : decode cX2_readRepeat 58 = .ok (.putfield 41, 3) := by decide +kernel
theorem dX2_readRepeat_61 : decode cX2_readRepeat 61 = .ok (.aload_n 0, 1) := by decide +kernel
theorem dX2_readRepeat_62 : decode cX2_readRepeat 62 = .ok (.bipush 7, 2) := by decide +kernel
theorem dX2_readRepeat_64 : decode cX2_readRepeat 64 = .ok (.iload_n 1, 1) := by decide +kernel
theorem dX2_readRepeat_65 : decode cX2_readRepeat 65 = .ok (.iconst 0, 1) := by decide +kernel
theorem dX2_readRepeat_66 : decode cX2_readRepeat 66 = .ok (.invokevirtual 101, 3) := by decide +kernel
theorem dX2_readRepeat_69 : decode cX2_readRepeat 69 = .ok (.iconst 1, 1) := by decide +kernel
theorem dX2_readRepeat_70 : decode cX2_readRepeat 70 = .ok (.ireturn, 1) := by decide +kernel
theorem dX2_readClose_0 : decode cX2_readClose 0 = .ok (.aload_n 0, 1) := by decide +kernel
theorem dX2_readClose_1 : decode cX2_readClose 1 = .ok (.getfield 14, 3) := by decide +kernel
theorem dX2_readClose_4 : decode cX2_readClose 4 = .ok (.invokevirtual 63, 3) := by decide +kernel
theorem dX2_readClose_7 : decode cX2_readClose 7 = .ok (.aload_n 0, 1) := by decide +kernel
theorem dX2_readClose_8 : decode cX2_readClose 8 = .ok (.getfield 14, 3) := by decide +kernel
theorem dX2_readClose_11 : decode cX2_readClose 11 = .ok (.bipush 59, 2) := by decide +kernel
theorem dX2_readClose_13 : decode cX2_readClose 13 = .ok (.invokevirtual 73, 3) := by decide +kernel
theorem dX2_readClose_16 : decode cX2_readClose 16 = .ok (.ifCond .eq 19, 3) := by decide +kernel
theorem dX2_readClose_19 : decode cX2_readClose 19 = .ok (.aload_n 0, 1) := by decide +kernel
theorem dX2_readClose_20 : decode cX2_readClose 20 = .ok (.getfield 41, 3) := by decide +kernel
theorem dX2_readClose_23 : decode cX2_readClose 23 = .ok (.iconst 1, 1) := by decide +kernel
theorem dX2_readClose_24 : decode cX2_readClose 24 = .ok (.if_icmp .lt 11, 3) := by decide +kernel
theorem dX2_readClose_27 : decode cX2_readClose 27 = .ok (.aload_n 0, 1) := by decide +kernel
theorem dX2_readClose_28 : decode cX2_readClose 28 = .ok (.getfield 41, 3) := by decide +kernel
theorem dX2_readClose_31 : decode cX2_readClose 31 = .ok (.iconst 2, 1) := by decide +kernel
theorem dX2_readClose_32 : decode cX2_readClose 32 = .ok (.if_icmp .le 5, 3) := by decide +kernel
theorem dX2_readClose_35 : decode cX2_readClose 35 = .ok (.iconst 0, 1) := by decide +kernel
theorem dX2_readClose_36 : decode cX2_readClose 36 = .ok (.ireturn, 1) := by decide +kernel
theorem dX2_readClose_37 : decode cX2_readClose 37 = .ok (.aload_n 0, 1) := by decide +kernel
theorem dX2_readClose_38 : decode cX2_readClose 38 = .ok (.dup, 1) := by decide +kernel
theorem dX2_readClose_39 : decode cX2_readClose 39 = .ok (.getfield 41, 3) := by decide +kernel
theorem dX2_readClose_42 : decode cX2_readClose 42 = .ok (.iconst 1, 1) := by decide +kernel
theorem dX2_readClose_43 : decode cX2_readClose 43 = .ok (.isub, 1) := by decide +kernel
theorem dX2_readClose_44 : decode cX2_readClose 44 = .ok (.putfield 41, 3) := by decide +kernel
theorem dX2_readClose_47 : decode cX2_readClose 47 = .ok (.aload_n 0, 1) := by decide +kernel
theorem dX2_readClose_48 : decode cX2_readClose 48 = .ok (.bipush 8, 2) := by decide +kernel
theorem dX2_readClose_50 : decode cX2_readClose 50 = .ok (.aload_n 0, 1) := by decide +kernel
theorem dX2_readClose_51 : decode cX2_readClose 51 = .ok (.getfield 28, 3) := by decide +kernel
theorem dX2_readClose_54 : decode cX2_readClose 54 = .ok (.aload_n 0, 1) := by decide +kernel
theorem dX2_readClose_55 : decode cX2_readClose 55 = .ok (.getfield 41, 3) := by decide +kernel
theorem dX2_readClose_58 : decode cX2_readClose 58 = .ok (.iaload, 1) := by decide +kernel
theorem dX2_readClose_59 : decode cX2_readClose 59 = .ok (.iconst 0, 1) := by decide +kernel
theorem dX2_readClose_60 : decode cX2_readClose 60 = .ok (.invokevirtual 101, 3) := by decide +kernel
theorem dX2_readClose_63 : decode cX2_readClose 63 = .ok (.iconst 1, 1) := by decide +kernel
theorem dX2_readClose_64 : decode cX2_readClose 64 = .ok (.ireturn, 1) := by decide +kernel
theorem dX2_readCommand_0 : decode cX2_readCommand 0 = .ok (.iload_n 2, 1) := by decide +kernel
theorem dX2_readCommand_1 : decode cX2_readCommand 1 = .ok (.ifCond .ne 33, 3) := by decide +kernel
theorem dX2_readCommand_4 : decode cX2_readCommand 4 = .ok (.aload_n 0, 1) := by decide +kernel
theorem dX2_readCommand_5 : decode cX2_readCommand 5 = .ok (.getfield 14, 3) := by decide +kernel
theorem dX2_readCommand_8 : decode cX2_readCommand 8 = .ok (.iconst 0, 1) := by decide +kernel
theorem dX2_readCommand_9 : decode cX2_readCommand 9 = .ok (.sipush 999, 3) := by decide +kernel
theorem dX2_readCommand_12 : decode cX2_readCommand 12 = .ok (.invokevirtual 97, 3) := by decide +kernel
theorem dX2_readCommand_15 : decode cX2_readCommand 15 = .ok (.istore_n 3, 1) := by decide +kernel
theorem dX2_readCommand_16 : decode cX2_readCommand 16 = .ok (.aload_n 0, 1) := by decide +kernel
theorem dX2_readCommand_17 : decode cX2_readCommand 17 = .ok (.iload_n 2, 1) := by decide +kernel
theorem dX2_readCommand_18 : decode cX2_readCommand 18 = .ok (.iload_n 3, 1) := by decide +kernel
theorem dX2_readCommand_19 : decode cX2_readCommand 19 = .ok (.iconst 0, 1) := by decide +kernel
theorem dX2_readCommand_20 : decode cX2_readCommand 20 = .ok (.invokevirtual 101, 3) := by decide +kernel
theorem dX2_readCommand_23 : decode cX2_readCommand 23 = .ok (.iload_n 3, 1) := by decide +kernel
theorem dX2_readCommand_24 : decode cX2_readCommand 24 = .ok (.iconst (-1), 1) := by decide +kernel
theorem dX2_readCommand_25 : decode cX2_readCommand 25 = .ok (.if_icmp .eq 7, 3) := by decide +kernel
theorem dX2_readCommand_28 : decode cX2_readCommand 28 = .ok (.iconst 1, 1) := by decide +kernel
theorem dX2_readCommand_29 : decode cX2_readCommand 29 = .ok (.goto 4, 3) := by decide +kernel
theorem dX2_readCommand_32 : decode cX2_readCommand 32 = .ok (.iconst 0, 1) := by decide +kernel
theorem dX2_readCommand_33 : decode cX2_readCommand 33 = .ok (.ireturn, 1) := by decide +kernel
theorem dX2_readCommand_34 : decode cX2_readCommand 34 = .ok (.aload_n 0, 1) := by decide +kernel
theorem dX2_readCommand_35 : decode cX2_readCommand 35 = .ok (.getfield 14, 3) := by decide +kernel
theorem dX2_readCommand_38 : decode cX2_readCommand 38 = .ok (.aload_n 1, 1) := by decide +kernel
theorem dX2_readCommand_39 : decode cX2_readCommand 39 = .ok (.invokevirtual 105, 3) := by decide +kernel
theorem dX2_readCommand_42 : decode cX2_readCommand 42 = .ok (.istore_n 3, 1) := by decide +kernel
theorem dX2_readCommand_43 : decode cX2_readCommand 43 = .ok (.iload_n 3, 1) := by decide +kernel
theorem dX2_readCommand_44 : decode cX2_readCommand 44 = .ok (.iconst (-1), 1) := by decide +kernel
theorem dX2_readCommand_45 : decode cX2_readCommand 45 = .ok (.if_icmp .ne 5, 3) := by decide +kernel
theorem dX2_readCommand_48 : decode cX2_readCommand 48 = .ok (.iconst 0, 1) := by decide +kernel
theorem dX2_readCommand_49 : decode cX2_readCommand 49 = .ok (.ireturn, 1) := by decide +kernel
theorem dX2_readCommand_50 : decode cX2_readCommand 50 = .ok (.aload_n 0, 1) := by decide +kernel
theorem dX2_readCommand_51 : decode cX2_readCommand 51 = .ok (.getfield 14, 3) := by decide +kernel
theorem dX2_readCommand_54 : decode cX2_readCommand 54 = .ok (.invokevirtual 63, 3) := by decide +kernel
theorem dX2_readCommand_57 : decode cX2_readCommand 57 = .ok (.aload_n 0, 1) := by decide +kernel
theorem dX2_readCommand_58 : decode cX2_readCommand 58 = .ok (.aload_n 1, 1) := by decide +kernel
theorem dX2_readCommand_59 : decode cX2_readCommand 59 = .ok (.iload_n 2, 1) := by decide +kernel
theorem dX2_readCommand_60 : decode cX2_readCommand 60 = .ok (.iload_n 3, 1) := by decide +kernel
theorem dX2_readCommand_61 : decode cX2_readCommand 61 = .ok (.invokevirtual 109, 3) := by decide +kernel
theorem dX2_readCommand_64 : decode cX2_readCommand 64 = .ok (.istore 4, 2) := by decide +kernel
theorem dX2_readCommand_66 : decode cX2_readCommand 66 = .ok (.aload_n 0, 1) := by decide +kernel
theorem dX2_readCommand_67 : decode cX2_readCommand 67 = .ok (.iload_n 2, 1) := by decide +kernel
theorem dX2_readCommand_68 : decode cX2_readCommand 68 = .ok (.iload_n 3, 1) := by decide +kernel
theorem dX2_readCommand_69 : decode cX2_readCommand 69 = .ok (.iload 4, 2) := by decide +kernel
theorem dX2_readCommand_71 : decode cX2_readCommand 71 = .ok (.invokevirtual 101, 3) := by decide +kernel
theorem dX2_readCommand_74 : decode cX2_readCommand 74 = .ok (.iload 4, 2) := by decide +kernel
theorem dX2_readCommand_76 : decode cX2_readCommand 76 = .ok (.iconst (-1), 1) := by decide +kernel
theorem dX2_readCommand_77 : decode cX2_readCommand 77 = .ok (.if_icmp .eq 7, 3) := by decide +kernel
theorem dX2_readCommand_80 : decode cX2_readCommand 80 = .ok (.iconst 1, 1) := by decide +kernel
theorem dX2_readCommand_81 : decode cX2_readCommand 81 = .ok (.goto 4, 3) := by decide +kernel
theorem dX2_readCommand_84 : decode cX2_readCommand 84 = .ok (.iconst 0, 1) := by decide +kernel
theorem dX2_readCommand_85 : decode cX2_readCommand 85 = .ok (.ireturn, 1) := by decide +kernel
theorem dX2_readBehindName_0 : decode cX2_readBehindName 0 = .ok (.iload_n 2, 1) := by decide +kernel
theorem dX2_readBehindName_1 : decode cX2_readBehindName 1 = .ok (.iconst 1, 1) := by decide +kernel
theorem dX2_readBehindName_2 : decode cX2_readBehindName 2 = .ok (.if_icmp .ne 5, 3) := by decide +kernel
theorem dX2_readBehindName_5 : decode cX2_readBehindName 5 = .ok (.iconst 0, 1) := by decide +kernel
theorem dX2_readBehindName_6 : decode cX2_readBehindName 6 = .ok (.ireturn, 1) := by decide +kernel
theorem dX2_readBehindName_7 : decode cX2_readBehindName 7 = .ok (.iload_n 2, 1) := by decide +kernel
theorem dX2_readBehindName_8 : decode cX2_readBehindName 8 = .ok (.iconst 5, 1) := by decide +kernel
theorem dX2_readBehindName_9 : decode cX2_readBehindName 9 = .ok (.if_icmp .eq 21, 3) := by decide +kernel
theorem dX2_readBehindName_12 : decode cX2_readBehindName 12 = .ok (.iload_n 2, 1) := by decide +kernel
theorem dX2_readBehindName_13 : decode cX2_readBehindName 13 = .ok (.bipush 6, 2) := by decide +kernel
theorem dX2_readBehindName_15 : decode cX2_readBehindName 15 = .ok (.if_icmp .eq 15, 3) := by decide +kernel
theorem dX2_readBehindName_18 : decode cX2_readBehindName 18 = .ok (.aload_n 0, 1) := by decide +kernel
theorem dX2_readBehindName_19 : decode cX2_readBehindName 19 = .ok (.getfield 14, 3) := by decide +kernel
theorem dX2_readBehindName_22 : decode cX2_readBehindName 22 = .ok (.iconst 0, 1) := by decide +kernel
theorem dX2_readBehindName_23 : decode cX2_readBehindName 23 = .ok (.sipush 999, 3) := by decide +kernel
theorem dX2_readBehindName_26 : decode cX2_readBehindName 26 = .ok (.invokevirtual 97, 3) := by decide +kernel
theorem dX2_readBehindName_29 : decode cX2_readBehindName 29 = .ok (.ireturn, 1) := by decide +kernel
theorem dX2_readBehindName_30 : decode cX2_readBehindName 30 = .ok (.aload_n 0, 1) := by decide +kernel
theorem dX2_readBehindName_31 : decode cX2_readBehindName 31 = .ok (.getfield 14, 3) := by decide +kernel
theorem dX2_readBehindName_34 : decode cX2_readBehindName 34 = .ok (.aload_n 1, 1) := by decide +kernel
theorem dX2_readBehindName_35 : decode cX2_readBehindName 35 = .ok (.invokevirtual 105, 3) := by decide +kernel
theorem dX2_readBehindName_38 : decode cX2_readBehindName 38 = .ok (.istore 4, 2) := by decide +kernel
theorem dX2_readBehindName_40 : decode cX2_readBehindName 40 = .ok (.iload 4, 2) := by decide +kernel
theorem dX2_readBehindName_42 : decode cX2_readBehindName 42 = .ok (.iload_n 3, 1) := by decide +kernel
theorem dX2_readBehindName_43 : decode cX2_readBehindName 43 = .ok (.if_icmp .ne 14, 3) := by decide +kernel
theorem dX2_readBehindName_46 : decode cX2_readBehindName 46 = .ok (.aload_n 0, 1) := by decide +kernel
theorem dX2_readBehindName_47 : decode cX2_readBehindName 47 = .ok (.getfield 14, 3) := by decide +kernel
theorem dX2_readBehindName_50 : decode cX2_readBehindName 50 = .ok (.iconst 3, 1) := by decide +kernel
theorem dX2_readBehindName_51 : decode cX2_readBehindName 51 = .ok (.invokevirtual 59, 3) := by decide +kernel
theorem dX2_readBehindName_54 : decode cX2_readBehindName 54 = .ok (.pop, 1) := by decide +kernel
theorem dX2_readBehindName_55 : decode cX2_readBehindName 55 = .ok (.iconst (-1), 1) := by decide +kernel
theorem dX2_readBehindName_56 : decode cX2_readBehindName 56 = .ok (.ireturn, 1) := by decide +kernel
theorem dX2_readBehindName_57 : decode cX2_readBehindName 57 = .ok (.iload 4, 2) := by decide +kernel
theorem dX2_readBehindName_59 : decode cX2_readBehindName 59 = .ok (.iconst (-1), 1) := by decide +kernel
theorem dX2_readBehindName_60 : decode cX2_readBehindName 60 = .ok (.if_icmp .eq 10, 3) := by decide +kernel
theorem dX2_readBehindName_63 : decode cX2_readBehindName 63 = .ok (.aload_n 0, 1) := by decide +kernel
theorem dX2_readBehindName_64 : decode cX2_readBehindName 64 = .ok (.getfield 14, 3) := by decide +kernel
theorem dX2_readBehindName_67 : decode cX2_readBehindName 67 = .ok (.invokevirtual 63, 3) := by decide +kernel
theorem dX2_readBehindName_70 : decode cX2_readBehindName 70 = .ok (.iload 4, 2) := by decide +kernel
theorem dX2_readBehindName_72 : decode cX2_readBehindName 72 = .ok (.ireturn, 1) := by decide +kernel
theorem dX2_add_0 : decode cX2_add 0 = .ok (.aload_n 0, 1) := by decide +kernel
theorem dX2_add_1 : decode cX2_add 1 = .ok (.getfield 34, 3) := by decide +kernel
theorem dX2_add_4 : decode cX2_add 4 = .ok (.bipush 60, 2) := by decide +kernel
theorem dX2_add_6 : decode cX2_add 6 = .ok (.if_icmp .ge 43, 3) := by decide +kernel
theorem dX2_add_9 : decode cX2_add 9 = .ok (.aload_n 0, 1) := by decide +kernel
theorem dX2_add_10 : decode cX2_add 10 = .ok (.getfield 18, 3) := by decide +kernel
theorem dX2_add_13 : decode cX2_add 13 = .ok (.aload_n 0, 1) := by decide +kernel
theorem dX2_add_14 : decode cX2_add 14 = .ok (.getfield 34, 3) := by decide +kernel
theorem dX2_add_17 : decode cX2_add 17 = .ok (.iload_n 1, 1) := by decide +kernel
theorem dX2_add_18 : decode cX2_add 18 = .ok (.iastore, 1) := by decide +kernel
theorem dX2_add_19 : decode cX2_add 19 = .ok (.aload_n 0, 1) := by decide +kernel
theorem dX2_add_20 : decode cX2_add 20 = .ok (.getfield 22, 3) := by decide +kernel
theorem dX2_add_23 : decode cX2_add 23 = .ok (.aload_n 0, 1) := by decide +kernel
theorem dX2_add_24 : decode cX2_add 24 = .ok (.getfield 34, 3) := by decide +kernel
theorem dX2_add_27 : decode cX2_add 27 = .ok (.iload_n 2, 1) := by decide +kernel
theorem dX2_add_28 : decode cX2_add 28 = .ok (.iastore, 1) := by decide +kernel
theorem dX2_add_29 : decode cX2_add 29 = .ok (.aload_n 0, 1) := by decide +kernel
theorem dX2_add_30 : decode cX2_add 30 = .ok (.getfield 25, 3) := by decide +kernel
theorem dX2_add_33 : decode cX2_add 33 = .ok (.aload_n 0, 1) := by decide +kernel
theorem dX2_add_34 : decode cX2_add 34 = .ok (.getfield 34, 3) := by decide +kernel
theorem dX2_add_37 : decode cX2_add 37 = .ok (.iload_n 3, 1) := by decide +kernel
theorem dX2_add_38 : decode cX2_add 38 = .ok (.iastore, 1) := by decide +kernel
theorem dX2_add_39 : decode cX2_add 39 = .ok (.aload_n 0, 1) := by decide +kernel
theorem dX2_add_40 : decode cX2_add 40 = .ok (.dup, 1) := by decide +kernel
theorem dX2_add_41 : decode cX2_add 41 = .ok (.getfield 34, 3) := by decide +kernel
theorem dX2_add_44 : decode cX2_add 44 = .ok (.iconst 1, 1) := by decide +kernel
theorem dX2_add_45 : decode cX2_add 45 = .ok (.iadd, 1) := by decide +kernel
theorem dX2_add_46 : decode cX2_add 46 = .ok (.putfield 34, 3) := by decide +kernel
theorem dX2_add_49 : decode cX2_add 49 = .ok (.return_, 1) := by decide +kernel
theorem dX2_runCommands_0 : decode cX2_runCommands 0 = .ok (.iconst 0, 1) := by decide +kernel
theorem dX2_runCommands_1 : decode cX2_runCommands 1 = .ok (.istore_n 2, 1) := by decide +kernel
theorem dX2_runCommands_2 : decode cX2_runCommands 2 = .ok (.iconst 0, 1) := by decide +kernel
theorem dX2_runCommands_3 : decode cX2_runCommands 3 = .ok (.istore_n 3, 1) := by decide +kernel
theorem dX2_runCommands_4 : decode cX2_runCommands 4 = .ok (.aload_n 0, 1) := by decide +kernel
theorem dX2_runCommands_5 : decode cX2_runCommands 5 = .ok (.iconst 0, 1) := by decide +kernel
theorem dX2_runCommands_6 : decode cX2_runCommands 6 = .ok (.putfield 41, 3) := by decide +kernel
theorem dX2_runCommands_9 : decode cX2_runCommands 9 = .ok (.iconst 0, 1) := by decide +kernel
theorem dX2_runCommands_10 : decode cX2_runCommands 10 = .ok (.istore 4, 2) := by decide +kernel
theorem dX2_runCommands_12 : decode cX2_runCommands 12 = .ok (.iload 4, 2) := by decide +kernel
theorem dX2_runCommands_14 : decode cX2_runCommands 14 = .ok (.ldc 113, 2) := by decide +kernel
theorem dX2_runCommands_16 : decode cX2_runCommands 16 = .ok (.if_icmp .ge 107, 3) := by decide +kernel
theorem dX2_runCommands_19 : decode cX2_runCommands 19 = .ok (.iload_n 3, 1) := by decide +kernel
theorem dX2_runCommands_20 : decode cX2_runCommands 20 = .ok (.ifCond .lt 103, 3) := by decide +kernel
theorem dX2_runCommands_23 : decode cX2_runCommands 23 = .ok (.iload_n 3, 1) := by decide +kernel
theorem dX2_runCommands_24 : decode cX2_runCommands 24 = .ok (.aload_n 0, 1) := by decide +kernel
theorem dX2_runCommands_25 : decode cX2_runCommands 25 = .ok (.getfield 34, 3) := by decide +kernel
theorem dX2_runCommands_28 : decode cX2_runCommands 28 = .ok (.if_icmp .ge 95, 3) := by decide +kernel
theorem dX2_runCommands_31 : decode cX2_runCommands 31 = .ok (.iload_n 2, 1) := by decide +kernel
theorem dX2_runCommands_32 : decode cX2_runCommands 32 = .ok (.bipush 40, 2) := by decide +kernel
theorem dX2_runCommands_34 : decode cX2_runCommands 34 = .ok (.if_icmp .ge 89, 3) := by decide +kernel
theorem dX2_runCommands_37 : decode cX2_runCommands 37 = .ok (.aload_n 0, 1) := by decide +kernel
theorem dX2_runCommands_38 : decode cX2_runCommands 38 = .ok (.getfield 18, 3) := by decide +kernel
theorem dX2_runCommands_41 : decode cX2_runCommands 41 = .ok (.iload_n 3, 1) := by decide +kernel
theorem dX2_runCommands_42 : decode cX2_runCommands 42 = .ok (.iaload, 1) := by decide +kernel
theorem dX2_runCommands_43 : decode cX2_runCommands 43 = .ok (.bipush 7, 2) := by decide +kernel
theorem dX2_runCommands_45 : decode cX2_runCommands 45 = .ok (.if_icmp .ne 16, 3) := by decide +kernel
theorem dX2_runCommands_48 : decode cX2_runCommands 48 = .ok (.aload_n 0, 1) := by decide +kernel
theorem dX2_runCommands_49 : decode cX2_runCommands 49 = .ok (.aload_n 0, 1) := by decide +kernel
theorem dX2_runCommands_50 : decode cX2_runCommands 50 = .ok (.getfield 22, 3) := by decide +kernel
theorem dX2_runCommands_53 : decode cX2_runCommands 53 = .ok (.iload_n 3, 1) := by decide +kernel
theorem dX2_runCommands_54 : decode cX2_runCommands 54 = .ok (.iaload, 1) := by decide +kernel
theorem dX2_runCommands_55 : decode cX2_runCommands 55 = .ok (.invokevirtual 114, 3) := by decide +kernel
theorem dX2_runCommands_58 : decode cX2_runCommands 58 = .ok (.goto 56, 3) := by decide +kernel
theorem dX2_runCommands_61 : decode cX2_runCommands 61 = .ok (.aload_n 0, 1) := by decide +kernel
theorem dX2_runCommands_62 : decode cX2_runCommands 62 = .ok (.getfield 18, 3) := by decide +kernel
theorem dX2_runCommands_65 : decode cX2_runCommands 65 = .ok (.iload_n 3, 1) := by decide +kernel
theorem dX2_runCommands_66 : decode cX2_runCommands 66 = .ok (.iaload, 1) := by decide +kernel
theorem dX2_runCommands_67 : decode cX2_runCommands 67 = .ok (.bipush 8, 2) := by decide +kernel
theorem dX2_runCommands_69 : decode cX2_runCommands 69 = .ok (.if_icmp .ne 12, 3) := by decide +kernel
theorem dX2_runCommands_72 : decode cX2_runCommands 72 = .ok (.aload_n 0, 1) := by decide +kernel
theorem dX2_runCommands_73 : decode cX2_runCommands 73 = .ok (.iload_n 3, 1) := by decide +kernel
theorem dX2_runCommands_74 : decode cX2_runCommands 74 = .ok (.invokevirtual 118, 3) := by decide +kernel
theorem dX2_runCommands_77 : decode cX2_runCommands 77 = .ok (.istore_n 3, 1) := by decide +kernel
theorem dX2_runCommands_78 : decode cX2_runCommands 78 = .ok (.goto 36, 3) := by decide +kernel
theorem dX2_runCommands_81 : decode cX2_runCommands 81 = .ok (.aload_n 1, 1) := by decide +kernel
theorem dX2_runCommands_82 : decode cX2_runCommands 82 = .ok (.aload_n 0, 1) := by decide +kernel
theorem dX2_runCommands_83 : decode cX2_runCommands 83 = .ok (.getfield 18, 3) := by decide +kernel
theorem dX2_runCommands_86 : decode cX2_runCommands 86 = .ok (.iload_n 3, 1) := by decide +kernel
theorem dX2_runCommands_87 : decode cX2_runCommands 87 = .ok (.iaload, 1) := by decide +kernel
theorem dX2_runCommands_88 : decode cX2_runCommands 88 = .ok (.aload_n 0, 1) := by decide +kernel
theorem dX2_runCommands_89 : decode cX2_runCommands 89 = .ok (.getfield 22, 3) := by decide +kernel
theorem dX2_runCommands_92 : decode cX2_runCommands 92 = .ok (.iload_n 3, 1) := by decide +kernel
theorem dX2_runCommands_93 : decode cX2_runCommands 93 = .ok (.iaload, 1) := by decide +kernel
theorem dX2_runCommands_94 : decode cX2_runCommands 94 = .ok (.aload_n 0, 1) := by decide +kernel
theorem dX2_runCommands_95 : decode cX2_runCommands 95 = .ok (.getfield 25, 3) := by decide +kernel
theorem dX2_runCommands_98 : decode cX2_runCommands 98 = .ok (.iload_n 3, 1) := by decide +kernel
theorem dX2_runCommands_99 : decode cX2_runCommands 99 = .ok (.iaload, 1) := by decide +kernel
theorem dX2_runCommands_100 : decode cX2_runCommands 100 = .ok (.invokestatic 122, 3) := by decide +kernel
theorem dX2_runCommands_103 : decode cX2_runCommands 103 = .ok (.ifCond .eq 9, 3) := by decide +kernel
theorem dX2_runCommands_106 : decode cX2_runCommands 106 = .ok (.iinc 2 1, 3) := by decide +kernel
theorem dX2_runCommands_109 : decode cX2_runCommands 109 = .ok (.goto 5, 3) := by decide +kernel
theorem dX2_runCommands_112 : decode cX2_runCommands 112 = .ok (.iload_n 2, 1) := by decide +kernel
theorem dX2_runCommands_113 : decode cX2_runCommands 113 = .ok (.ireturn, 1) := by decide +kernel
theorem dX2_runCommands_114 : decode cX2_runCommands 114 = .ok (.iinc 3 1, 3) := by decide +kernel
theorem dX2_runCommands_117 : decode cX2_runCommands 117 = .ok (.iinc 4 1, 3) := by decide +kernel
theorem dX2_runCommands_120 : decode cX2_runCommands 120 = .ok (.goto (-108), 3) := by decide +kernel
theorem dX2_runCommands_123 : decode cX2_runCommands 123 = .ok (.iload_n 2, 1) := by decide +kernel
theorem dX2_runCommands_124 : decode cX2_runCommands 124 = .ok (.ireturn, 1) := by decide +kernel
theorem dX2_openRepeat_0 : decode cX2_openRepeat 0 = .ok (.aload_n 0, 1) := by decide +kernel
theorem dX2_openRepeat_1 : decode cX2_openRepeat 1 = .ok (.getfield 41, 3) := by decide +kernel
theorem dX2_openRepeat_4 : decode cX2_openRepeat 4 = .ok (.iconst 2, 1) := by decide +kernel
theorem dX2_openRepeat_5 : decode cX2_openRepeat 5 = .ok (.if_icmp .ge 23, 3) := by decide +kernel
theorem dX2_openRepeat_8 : decode cX2_openRepeat 8 = .ok (.aload_n 0, 1) := by decide +kernel
theorem dX2_openRepeat_9 : decode cX2_openRepeat 9 = .ok (.getfield 31, 3) := by decide +kernel
theorem dX2_openRepeat_12 : decode cX2_openRepeat 12 = .ok (.aload_n 0, 1) := by decide +kernel
theorem dX2_openRepeat_13 : decode cX2_openRepeat 13 = .ok (.getfield 41, 3) := by decide +kernel
theorem dX2_openRepeat_16 : decode cX2_openRepeat 16 = .ok (.iload_n 1, 1) := by decide +kernel
theorem dX2_openRepeat_17 : decode cX2_openRepeat 17 = .ok (.iastore, 1) := by decide +kernel
theorem dX2_openRepeat_18 : decode cX2_openRepeat 18 = .ok (.aload_n 0, 1) := by decide +kernel
theorem dX2_openRepeat_19 : decode cX2_openRepeat 19 = .ok (.dup, 1) := by decide +kernel
theorem dX2_openRepeat_20 : decode cX2_openRepeat 20 = .ok (.getfield 41, 3) := by decide +kernel
theorem dX2_openRepeat_23 : decode cX2_openRepeat 23 = .ok (.iconst 1, 1) := by decide +kernel
theorem dX2_openRepeat_24 : decode cX2_openRepeat 24 = .ok (.iadd, 1) := by decide +kernel
theorem dX2_openRepeat_25 : decode cX2_openRepeat 25 = .ok (.putfield 41, 3) := by decide +kernel
theorem dX2_openRepeat_28 : decode cX2_openRepeat 28 = .ok (.return_, 1) := by decide +kernel
theorem dX2_closeRepeat_0 : decode cX2_closeRepeat 0 = .ok (.aload_n 0, 1) := by decide +kernel
theorem dX2_closeRepeat_1 : decode cX2_closeRepeat 1 = .ok (.getfield 41, 3) := by decide +kernel
theorem dX2_closeRepeat_4 : decode cX2_closeRepeat 4 = .ok (.iconst 1, 1) := by decide +kernel
theorem dX2_closeRepeat_5 : decode cX2_closeRepeat 5 = .ok (.if_icmp .lt 11, 3) := by decide +kernel
theorem dX2_closeRepeat_8 : decode cX2_closeRepeat 8 = .ok (.aload_n 0, 1) := by decide +kernel
theorem dX2_closeRepeat_9 : decode cX2_closeRepeat 9 = .ok (.getfield 41, 3) := by decide +kernel
theorem dX2_closeRepeat_12 : decode cX2_closeRepeat 12 = .ok (.iconst 2, 1) := by decide +kernel
theorem dX2_closeRepeat_13 : decode cX2_closeRepeat 13 = .ok (.if_icmp .le 5, 3) := by decide +kernel
theorem dX2_closeRepeat_16 : decode cX2_closeRepeat 16 = .ok (.iload_n 1, 1) := by decide +kernel
theorem dX2_closeRepeat_17 : decode cX2_closeRepeat 17 = .ok (.ireturn, 1) := by decide +kernel
theorem dX2_closeRepeat_18 : decode cX2_closeRepeat 18 = .ok (.aload_n 0, 1) := by decide +kernel
theorem dX2_closeRepeat_19 : decode cX2_closeRepeat 19 = .ok (.getfield 31, 3) := by decide +kernel
theorem dX2_closeRepeat_22 : decode cX2_closeRepeat 22 = .ok (.aload_n 0, 1) := by decide +kernel
theorem dX2_closeRepeat_23 : decode cX2_closeRepeat 23 = .ok (.getfield 41, 3) := by decide +kernel
theorem dX2_closeRepeat_26 : decode cX2_closeRepeat 26 = .ok (.iconst 1, 1) := by decide +kernel
theorem dX2_closeRepeat_27 : decode cX2_closeRepeat 27 = .ok (.isub, 1) := by decide +kernel
theorem dX2_closeRepeat_28 : decode cX2_closeRepeat 28 = .ok (.dup2, 1) := by decide +kernel
theorem dX2_closeRepeat_29 : decode cX2_closeRepeat 29 = .ok (.iaload, 1) := by decide +kernel
theorem dX2_closeRepeat_30 : decode cX2_closeRepeat 30 = .ok (.iconst 1, 1) := by decide +kernel
theorem dX2_closeRepeat_31 : decode cX2_closeRepeat 31 = .ok (.isub, 1) := by decide +kernel
theorem dX2_closeRepeat_32 : decode cX2_closeRepeat 32 = .ok (.iastore, 1) := by decide +kernel
theorem dX2_closeRepeat_33 : decode cX2_closeRepeat 33 = .ok (.aload_n 0, 1) := by decide +kernel
theorem dX2_closeRepeat_34 : decode cX2_closeRepeat 34 = .ok (.getfield 31, 3) := by decide +kernel
theorem dX2_closeRepeat_37 : decode cX2_closeRepeat 37 = .ok (.aload_n 0, 1) := by decide +kernel
theorem dX2_closeRepeat_38 : decode cX2_closeRepeat 38 = .ok (.getfield 41, 3) := by decide +kernel
theorem dX2_closeRepeat_41 : decode cX2_closeRepeat 41 = .ok (.iconst 1, 1) := by decide +kernel
theorem dX2_closeRepeat_42 : decode cX2_closeRepeat 42 = .ok (.isub, 1) := by decide +kernel
theorem dX2_closeRepeat_43 : decode cX2_closeRepeat 43 = .ok (.iaload, 1) := by decide +kernel
theorem dX2_closeRepeat_44 : decode cX2_closeRepeat 44 = .ok (.ifCond .le 10, 3) := by decide +kernel
theorem dX2_closeRepeat_47 : decode cX2_closeRepeat 47 = .ok (.aload_n 0, 1) := by decide +kernel
theorem dX2_closeRepeat_48 : decode cX2_closeRepeat 48 = .ok (.getfield 22, 3) := by decide +kernel
theorem dX2_closeRepeat_51 : decode cX2_closeRepeat 51 = .ok (.iload_n 1, 1) := by decide +kernel
theorem dX2_closeRepeat_52 : decode cX2_closeRepeat 52 = .ok (.iaload, 1) := by decide +kernel
theorem dX2_closeRepeat_53 : decode cX2_closeRepeat 53 = .ok (.ireturn, 1) := by decide +kernel
theorem dX2_closeRepeat_54 : decode cX2_closeRepeat 54 = .ok (.aload_n 0, 1) := by decide +kernel
theorem dX2_closeRepeat_55 : decode cX2_closeRepeat 55 = .ok (.dup, 1) := by decide +kernel
theorem dX2_closeRepeat_56 : decode cX2_closeRepeat 56 = .ok (.getfield 41, 3) := by decide +kernel
theorem dX2_closeRepeat_59 : decode cX2_closeRepeat 59 = .ok (.iconst 1, 1) := by decide +kernel
theorem dX2_closeRepeat_60 : decode cX2_closeRepeat 60 = .ok (.isub, 1) := by decide +kernel
theorem dX2_closeRepeat_61 : decode cX2_closeRepeat 61 = .ok (.putfield 41, 3) := by decide +kernel
theorem dX2_closeRepeat_64 : decode cX2_closeRepeat 64 = .ok (.iload_n 1, 1) := by decide +kernel
theorem dX2_closeRepeat_65 : decode cX2_closeRepeat 65 = .ok (.ireturn, 1) := by decide +kernel
theorem dX2_perform_0 : decode cX2_perform 0 = .ok (.iload_n 1, 1) := by decide +kernel
theorem dX2_perform_1 : decode cX2_perform 1 = .ok (.ifCond .ne 23, 3) := by decide +kernel
theorem dX2_perform_4 : decode cX2_perform 4 = .ok (.aload_n 0, 1) := by decide +kernel
theorem dX2_perform_5 : decode cX2_perform 5 = .ok (.iload_n 2, 1) := by decide +kernel
theorem dX2_perform_6 : decode cX2_perform 6 = .ok (.invokevirtual 126, 3) := by decide +kernel
theorem dX2_perform_9 : decode cX2_perform 9 = .ok (.istore 4, 2) := by decide +kernel
theorem dX2_perform_11 : decode cX2_perform 11 = .ok (.iload 4, 2) := by decide +kernel
theorem dX2_perform_13 : decode cX2_perform 13 = .ok (.ifCond .eq 8, 3) := by decide +kernel
theorem dX2_perform_16 : decode cX2_perform 16 = .ok (.aload_n 0, 1) := by decide +kernel
theorem dX2_perform_17 : decode cX2_perform 17 = .ok (.iload_n 2, 1) := by decide +kernel
theorem dX2_perform_18 : decode cX2_perform 18 = .ok (.invokevirtual 131, 3) := by decide +kernel
theorem dX2_perform_21 : decode cX2_perform 21 = .ok (.iload 4, 2) := by decide +kernel
theorem dX2_perform_23 : decode cX2_perform 23 = .ok (.ireturn, 1) := by decide +kernel
theorem dX2_perform_24 : decode cX2_perform 24 = .ok (.iload_n 2, 1) := by decide +kernel
theorem dX2_perform_25 : decode cX2_perform 25 = .ok (.ifCond .lt 11, 3) := by decide +kernel
theorem dX2_perform_28 : decode cX2_perform 28 = .ok (.iload_n 2, 1) := by decide +kernel
theorem dX2_perform_29 : decode cX2_perform 29 = .ok (.aload_n 0, 1) := by decide +kernel
theorem dX2_perform_30 : decode cX2_perform 30 = .ok (.getfield 134, 3) := by decide +kernel
theorem dX2_perform_33 : decode cX2_perform 33 = .ok (.if_icmp .lt 5, 3) := by decide +kernel
theorem dX2_perform_36 : decode cX2_perform 36 = .ok (.iconst 0, 1) := by decide +kernel
theorem dX2_perform_37 : decode cX2_perform 37 = .ok (.ireturn, 1) := by decide +kernel
theorem dX2_perform_38 : decode cX2_perform 38 = .ok (.aload_n 0, 1) := by decide +kernel
theorem dX2_perform_39 : decode cX2_perform 39 = .ok (.getfield 137, 3) := by decide +kernel
theorem dX2_perform_42 : decode cX2_perform 42 = .ok (.iload_n 2, 1) := by decide +kernel
theorem dX2_perform_43 : decode cX2_perform 43 = .ok (.aaload, 1) := by decide +kernel
theorem dX2_perform_44 : decode cX2_perform 44 = .ok (.astore 4, 2) := by decide +kernel
theorem dX2_perform_46 : decode cX2_perform 46 = .ok (.iload_n 1, 1) := by decide +kernel
theorem dX2_perform_47 : decode cX2_perform 47 = .ok (.tableswitch 56 1 4 #[29, 35, 42, 49], 29) := by decide +kernel
theorem dX2_perform_76 : decode cX2_perform 76 = .ok (.aload 4, 2) := by decide +kernel
theorem dX2_perform_78 : decode cX2_perform 78 = .ok (.invokestatic 141, 3) := by decide +kernel
theorem dX2_perform_81 : decode cX2_perform 81 = .ok (.ireturn, 1) := by decide +kernel
theorem dX2_perform_82 : decode cX2_perform 82 = .ok (.aload 4, 2) := by decide +kernel
theorem dX2_perform_84 : decode cX2_perform 84 = .ok (.iload_n 3, 1) := by decide +kernel
theorem dX2_perform_85 : decode cX2_perform 85 = .ok (.invokestatic 145, 3) := by decide +kernel
theorem dX2_perform_88 : decode cX2_perform 88 = .ok (.ireturn, 1) := by decide +kernel
theorem dX2_perform_89 : decode cX2_perform 89 = .ok (.aload 4, 2) := by decide +kernel
theorem dX2_perform_91 : decode cX2_perform 91 = .ok (.iload_n 3, 1) := by decide +kernel
theorem dX2_perform_92 : decode cX2_perform 92 = .ok (.invokestatic 149, 3) := by decide +kernel
theorem dX2_perform_95 : decode cX2_perform 95 = .ok (.ireturn, 1) := by decide +kernel
theorem dX2_perform_96 : decode cX2_perform 96 = .ok (.aload 4, 2) := by decide +kernel
theorem dX2_perform_98 : decode cX2_perform 98 = .ok (.iload_n 3, 1) := by decide +kernel
theorem dX2_perform_99 : decode cX2_perform 99 = .ok (.invokestatic 152, 3) := by decide +kernel
theorem dX2_perform_102 : decode cX2_perform 102 = .ok (.ireturn, 1) := by decide +kernel
theorem dX2_perform_103 : decode cX2_perform 103 = .ok (.aload_n 0, 1) := by decide +kernel
theorem dX2_perform_104 : decode cX2_perform 104 = .ok (.iload_n 2, 1) := by decide +kernel
theorem dX2_perform_105 : decode cX2_perform 105 = .ok (.iload_n 3, 1) := by decide +kernel
theorem dX2_perform_106 : decode cX2_perform 106 = .ok (.iload_n 1, 1) := by decide +kernel
theorem dX2_perform_107 : decode cX2_perform 107 = .ok (.iconst 5, 1) := by decide +kernel
theorem dX2_perform_108 : decode cX2_perform 108 = .ok (.if_icmp .ne 7, 3) := by decide +kernel
theorem dX2_perform_111 : decode cX2_perform 111 = .ok (.iconst 1, 1) := by decide +kernel
theorem dX2_perform_112 : decode cX2_perform 112 = .ok (.goto 4, 3) := by decide +kernel
theorem dX2_perform_115 : decode cX2_perform 115 = .ok (.iconst 0, 1) := by decide +kernel
theorem dX2_perform_116 : decode cX2_perform 116 = .ok (.invokestatic 155, 3) := by decide +kernel
theorem dX2_perform_119 : decode cX2_perform 119 = .ok (.ireturn, 1) := by decide +kernel
theorem dX2_performWake_0 : decode cX2_performWake 0 = .ok (.aload_n 0, 1) := by decide +kernel
theorem dX2_performWake_1 : decode cX2_performWake 1 = .ok (.getfield 159, 3) := by decide +kernel
theorem dX2_performWake_4 : decode cX2_performWake 4 = .ok (.ifCond .eq 5, 3) := by decide +kernel
theorem dX2_performWake_7 : decode cX2_performWake 7 = .ok (.iconst 0, 1) := by decide +kernel
theorem dX2_performWake_8 : decode cX2_performWake 8 = .ok (.ireturn, 1) := by decide +kernel
theorem dX2_performWake_9 : decode cX2_performWake 9 = .ok (.aload_n 0, 1) := by decide +kernel
theorem dX2_performWake_10 : decode cX2_performWake 10 = .ok (.invokevirtual 164, 3) := by decide +kernel
theorem dX2_performWake_13 : decode cX2_performWake 13 = .ok (.iconst 1, 1) := by decide +kernel
theorem dX2_performWake_14 : decode cX2_performWake 14 = .ok (.ireturn, 1) := by decide +kernel
theorem dX2_performEvery_0 : decode cX2_performEvery 0 = .ok (.aload_n 0, 1) := by decide +kernel
theorem dX2_performEvery_1 : decode cX2_performEvery 1 = .ok (.iload_n 1, 1) := by decide +kernel
theorem dX2_performEvery_2 : decode cX2_performEvery 2 = .ok (.invokevirtual 167, 3) := by decide +kernel
theorem dX2_performEvery_5 : decode cX2_performEvery 5 = .ok (.ifCond .ne 5, 3) := by decide +kernel
theorem dX2_performEvery_8 : decode cX2_performEvery 8 = .ok (.iconst 0, 1) := by decide +kernel
theorem dX2_performEvery_9 : decode cX2_performEvery 9 = .ok (.ireturn, 1) := by decide +kernel
theorem dX2_performEvery_10 : decode cX2_performEvery 10 = .ok (.aload_n 0, 1) := by decide +kernel
theorem dX2_performEvery_11 : decode cX2_performEvery 11 = .ok (.iload_n 1, 1) := by decide +kernel
theorem dX2_performEvery_12 : decode cX2_performEvery 12 = .ok (.putfield 170, 3) := by decide +kernel
theorem dX2_performEvery_15 : decode cX2_performEvery 15 = .ok (.iconst 1, 1) := by decide +kernel
theorem dX2_performEvery_16 : decode cX2_performEvery 16 = .ok (.ireturn, 1) := by decide +kernel
theorem dX2_performAt_0 : decode cX2_performAt 0 = .ok (.aload_n 0, 1) := by decide +kernel
theorem dX2_performAt_1 : decode cX2_performAt 1 = .ok (.iload_n 1, 1) := by decide +kernel
theorem dX2_performAt_2 : decode cX2_performAt 2 = .ok (.invokevirtual 173, 3) := by decide +kernel
theorem dX2_performAt_5 : decode cX2_performAt 5 = .ok (.ifCond .ne 5, 3) := by decide +kernel
theorem dX2_performAt_8 : decode cX2_performAt 8 = .ok (.iconst 0, 1) := by decide +kernel
theorem dX2_performAt_9 : decode cX2_performAt 9 = .ok (.ireturn, 1) := by decide +kernel
theorem dX2_performAt_10 : decode cX2_performAt 10 = .ok (.aload_n 0, 1) := by decide +kernel
theorem dX2_performAt_11 : decode cX2_performAt 11 = .ok (.iload_n 1, 1) := by decide +kernel
theorem dX2_performAt_12 : decode cX2_performAt 12 = .ok (.putfield 176, 3) := by decide +kernel
theorem dX2_performAt_15 : decode cX2_performAt 15 = .ok (.iconst 1, 1) := by decide +kernel
theorem dX2_performAt_16 : decode cX2_performAt 16 = .ok (.ireturn, 1) := by decide +kernel
theorem dX2_performCharge_0 : decode cX2_performCharge 0 = .ok (.iload_n 1, 1) := by decide +kernel
theorem dX2_performCharge_1 : decode cX2_performCharge 1 = .ok (.invokestatic 179, 3) := by decide +kernel
theorem dX2_performCharge_4 : decode cX2_performCharge 4 = .ok (.ifCond .ne 5, 3) := by decide +kernel
theorem dX2_performCharge_7 : decode cX2_performCharge 7 = .ok (.iconst 0, 1) := by decide +kernel
theorem dX2_performCharge_8 : decode cX2_performCharge 8 = .ok (.ireturn, 1) := by decide +kernel
theorem dX2_performCharge_9 : decode cX2_performCharge 9 = .ok (.aload_n 0, 1) := by decide +kernel
theorem dX2_performCharge_10 : decode cX2_performCharge 10 = .ok (.iload_n 1, 1) := by decide +kernel
theorem dX2_performCharge_11 : decode cX2_performCharge 11 = .ok (.invokevirtual 182, 3) := by decide +kernel
theorem dX2_performCharge_14 : decode cX2_performCharge 14 = .ok (.iconst 1, 1) := by decide +kernel
theorem dX2_performCharge_15 : decode cX2_performCharge 15 = .ok (.ireturn, 1) := by decide +kernel
theorem dX2_performNear_0 : decode cX2_performNear 0 = .ok (.iload_n 2, 1) := by decide +kernel
theorem dX2_performNear_1 : decode cX2_performNear 1 = .ok (.ifCond .lt 28, 3) := by decide +kernel
theorem dX2_performNear_4 : decode cX2_performNear 4 = .ok (.iload_n 2, 1) := by decide +kernel
theorem dX2_performNear_5 : decode cX2_performNear 5 = .ok (.aload_n 0, 1) := by decide +kernel
theorem dX2_performNear_6 : decode cX2_performNear 6 = .ok (.getfield 134, 3) := by decide +kernel
theorem dX2_performNear_9 : decode cX2_performNear 9 = .ok (.if_icmp .ge 20, 3) := by decide +kernel
theorem dX2_performNear_12 : decode cX2_performNear 12 = .ok (.aload_n 0, 1) := by decide +kernel
theorem dX2_performNear_13 : decode cX2_performNear 13 = .ok (.getfield 137, 3) := by decide +kernel
theorem dX2_performNear_16 : decode cX2_performNear 16 = .ok (.iload_n 1, 1) := by decide +kernel
theorem dX2_performNear_17 : decode cX2_performNear 17 = .ok (.aaload, 1) := by decide +kernel
theorem dX2_performNear_18 : decode cX2_performNear 18 = .ok (.getfield 185, 3) := by decide +kernel
theorem dX2_performNear_21 : decode cX2_performNear 21 = .ok (.iload_n 2, 1) := by decide +kernel
theorem dX2_performNear_22 : decode cX2_performNear 22 = .ok (.invokestatic 187, 3) := by decide +kernel
theorem dX2_performNear_25 : decode cX2_performNear 25 = .ok (.iload_n 3, 1) := by decide +kernel
theorem dX2_performNear_26 : decode cX2_performNear 26 = .ok (.if_icmp .ne 5, 3) := by decide +kernel
theorem dX2_performNear_29 : decode cX2_performNear 29 = .ok (.iconst 0, 1) := by decide +kernel
theorem dX2_performNear_30 : decode cX2_performNear 30 = .ok (.ireturn, 1) := by decide +kernel
theorem dX2_performNear_31 : decode cX2_performNear 31 = .ok (.aload_n 0, 1) := by decide +kernel
theorem dX2_performNear_32 : decode cX2_performNear 32 = .ok (.iload_n 1, 1) := by decide +kernel
theorem dX2_performNear_33 : decode cX2_performNear 33 = .ok (.iload_n 2, 1) := by decide +kernel
theorem dX2_performNear_34 : decode cX2_performNear 34 = .ok (.invokevirtual 191, 3) := by decide +kernel
theorem dX2_performNear_37 : decode cX2_performNear 37 = .ok (.iconst 1, 1) := by decide +kernel
theorem dX2_performNear_38 : decode cX2_performNear 38 = .ok (.ireturn, 1) := by decide +kernel
theorem dX3_init_0 : decode cX3_init 0 = .ok (.aload_n 0, 1) := by decide +kernel
theorem dX3_init_1 : decode cX3_init 1 = .ok (.invokespecial 3, 3) := by decide +kernel
theorem dX3_init_4 : decode cX3_init 4 = .ok (.aload_n 0, 1) := by decide +kernel
theorem dX3_init_5 : decode cX3_init 5 = .ok (.new 9, 3) := by decide +kernel
theorem dX3_init_8 : decode cX3_init 8 = .ok (.dup, 1) := by decide +kernel
theorem dX3_init_9 : decode cX3_init 9 = .ok (.invokespecial 11, 3) := by decide +kernel
theorem dX3_init_12 : decode cX3_init 12 = .ok (.putfield 12, 3) := by decide +kernel
theorem dX3_init_15 : decode cX3_init 15 = .ok (.return_, 1) := by decide +kernel
theorem dX3_readAll_0 : decode cX3_readAll 0 = .ok (.aload_n 1, 1) := by decide +kernel
theorem dX3_readAll_1 : decode cX3_readAll 1 = .ok (.invokevirtual 18, 3) := by decide +kernel
theorem dX3_readAll_4 : decode cX3_readAll 4 = .ok (.aload_n 0, 1) := by decide +kernel
theorem dX3_readAll_5 : decode cX3_readAll 5 = .ok (.iconst 0, 1) := by decide +kernel
theorem dX3_readAll_6 : decode cX3_readAll 6 = .ok (.putfield 23, 3) := by decide +kernel
theorem dX3_readAll_9 : decode cX3_readAll 9 = .ok (.iconst 0, 1) := by decide +kernel
theorem dX3_readAll_10 : decode cX3_readAll 10 = .ok (.istore_n 2, 1) := by decide +kernel
theorem dX3_readAll_11 : decode cX3_readAll 11 = .ok (.iload_n 2, 1) := by decide +kernel
theorem dX3_readAll_12 : decode cX3_readAll 12 = .ok (.sipush 700, 3) := by decide +kernel
theorem dX3_readAll_15 : decode cX3_readAll 15 = .ok (.if_icmp .ge 41, 3) := by decide +kernel
theorem dX3_readAll_18 : decode cX3_readAll 18 = .ok (.aload_n 0, 1) := by decide +kernel
theorem dX3_readAll_19 : decode cX3_readAll 19 = .ok (.getfield 12, 3) := by decide +kernel
theorem dX3_readAll_22 : decode cX3_readAll 22 = .ok (.getfield 27, 3) := by decide +kernel
theorem dX3_readAll_25 : decode cX3_readAll 25 = .ok (.ifCond .eq 31, 3) := by decide +kernel
theorem dX3_readAll_28 : decode cX3_readAll 28 = .ok (.aload_n 0, 1) := by decide +kernel
theorem dX3_readAll_29 : decode cX3_readAll 29 = .ok (.aload_n 1, 1) := by decide +kernel
theorem dX3_readAll_30 : decode cX3_readAll 30 = .ok (.invokevirtual 30, 3) := by decide +kernel
theorem dX3_readAll_33 : decode cX3_readAll 33 = .ok (.ifCond .eq 15, 3) := by decide +kernel
theorem dX3_readAll_36 : decode cX3_readAll 36 = .ok (.aload_n 0, 1) := by decide +kernel
theorem dX3_readAll_37 : decode cX3_readAll 37 = .ok (.getfield 12, 3) := by decide +kernel
theorem dX3_readAll_40 : decode cX3_readAll 40 = .ok (.bipush 59, 2) := by decide +kernel
theorem dX3_readAll_42 : decode cX3_readAll 42 = .ok (.invokevirtual 34, 3) := by decide +kernel
theorem dX3_readAll_45 : decode cX3_readAll 45 = .ok (.ifCond .ne 5, 3) := by decide +kernel
theorem dX3_readAll_48 : decode cX3_readAll 48 = .ok (.iconst 0, 1) := by decide +kernel
theorem dX3_readAll_49 : decode cX3_readAll 49 = .ok (.ireturn, 1) := by decide +kernel
theorem dX3_readAll_50 : decode cX3_readAll 50 = .ok (.iinc 2 1, 3) := by decide +kernel
theorem dX3_readAll_53 : decode cX3_readAll 53 = .ok (.goto (-42), 3) := by decide +kernel
theorem dX3_readAll_56 : decode cX3_readAll 56 = .ok (.iconst 1, 1) := by decide +kernel
theorem dX3_readAll_57 : decode cX3_readAll 57 = .ok (.ireturn, 1) := by decide +kernel
theorem dX3_readStatement_0 : decode cX3_readStatement 0 = .ok (.aload_n 0, 1) := by decide +kernel
theorem dX3_readStatement_1 : decode cX3_readStatement 1 = .ok (.getfield 12, 3) := by decide +kernel
theorem dX3_readStatement_4 : decode cX3_readStatement 4 = .ok (.ldc 38, 2) := by decide +kernel
theorem dX3_readStatement_6 : decode cX3_readStatement 6 = .ok (.invokevirtual 40, 3) := by decide +kernel
theorem dX3_readStatement_9 : decode cX3_readStatement 9 = .ok (.ifCond .eq 25, 3) := by decide +kernel
theorem dX3_readStatement_12 : decode cX3_readStatement 12 = .ok (.aload_n 0, 1) := by decide +kernel
theorem dX3_readStatement_13 : decode cX3_readStatement 13 = .ok (.iconst 1, 1) := by decide +kernel
theorem dX3_readStatement_14 : decode cX3_readStatement 14 = .ok (.invokevirtual 44, 3) := by decide +kernel
theorem dX3_readStatement_17 : decode cX3_readStatement 17 = .ok (.ifCond .eq 15, 3) := by decide +kernel
theorem dX3_readStatement_20 : decode cX3_readStatement 20 = .ok (.aload_n 0, 1) := by decide +kernel
theorem dX3_readStatement_21 : decode cX3_readStatement 21 = .ok (.aload_n 1, 1) := by decide +kernel
theorem dX3_readStatement_22 : decode cX3_readStatement 22 = .ok (.invokevirtual 48, 3) := by decide +kernel
theorem dX3_readStatement_25 : decode cX3_readStatement 25 = .ok (.ifCond .eq 7, 3) := by decide +kernel
theorem dX3_readStatement_28 : decode cX3_readStatement 28 = .ok (.iconst 1, 1) := by decide +kernel
theorem dX3_readStatement_29 : decode cX3_readStatement 29 = .ok (.goto 4, 3) := by decide +kernel
theorem dX3_readStatement_32 : decode cX3_readStatement 32 = .ok (.iconst 0, 1) := by decide +kernel
theorem dX3_readStatement_33 : decode cX3_readStatement 33 = .ok (.ireturn, 1) := by decide +kernel
theorem dX3_readStatement_34 : decode cX3_readStatement 34 = .ok (.aload_n 0, 1) := by decide +kernel
theorem dX3_readStatement_35 : decode cX3_readStatement 35 = .ok (.getfield 12, 3) := by decide +kernel
theorem dX3_readStatement_38 : decode cX3_readStatement 38 = .ok (.ldc 51, 2) := by decide +kernel
theorem dX3_readStatement_40 : decode cX3_readStatement 40 = .ok (.invokevirtual 40, 3) := by decide +kernel
theorem dX3_readStatement_43 : decode cX3_readStatement 43 = .ok (.ifCond .eq 25, 3) := by decide +kernel
theorem dX3_readStatement_46 : decode cX3_readStatement 46 = .ok (.aload_n 0, 1) := by decide +kernel
theorem dX3_readStatement_47 : decode cX3_readStatement 47 = .ok (.iconst 2, 1) := by decide +kernel
theorem dX3_readStatement_48 : decode cX3_readStatement 48 = .ok (.invokevirtual 44, 3) := by decide +kernel
theorem dX3_readStatement_51 : decode cX3_readStatement 51 = .ok (.ifCond .eq 15, 3) := by decide +kernel
theorem dX3_readStatement_54 : decode cX3_readStatement 54 = .ok (.aload_n 0, 1) := by decide +kernel
theorem dX3_readStatement_55 : decode cX3_readStatement 55 = .ok (.aload_n 1, 1) := by decide +kernel
theorem dX3_readStatement_56 : decode cX3_readStatement 56 = .ok (.invokevirtual 53, 3) := by decide +kernel
theorem dX3_readStatement_59 : decode cX3_readStatement 59 = .ok (.ifCond .eq 7, 3) := by decide +kernel
theorem dX3_readStatement_62 : decode cX3_readStatement 62 = .ok (.iconst 1, 1) := by decide +kernel
theorem dX3_readStatement_63 : decode cX3_readStatement 63 = .ok (.goto 4, 3) := by decide +kernel
theorem dX3_readStatement_66 : decode cX3_readStatement 66 = .ok (.iconst 0, 1) := by decide +kernel
theorem dX3_readStatement_67 : decode cX3_readStatement 67 = .ok (.ireturn, 1) := by decide +kernel
theorem dX3_readStatement_68 : decode cX3_readStatement 68 = .ok (.aload_n 0, 1) := by decide +kernel
theorem dX3_readStatement_69 : decode cX3_readStatement 69 = .ok (.getfield 12, 3) := by decide +kernel
theorem dX3_readStatement_72 : decode cX3_readStatement 72 = .ok (.ldc 56, 2) := by decide +kernel
theorem dX3_readStatement_74 : decode cX3_readStatement 74 = .ok (.invokevirtual 40, 3) := by decide +kernel
theorem dX3_readStatement_77 : decode cX3_readStatement 77 = .ok (.ifCond .eq 25, 3) := by decide +kernel
theorem dX3_readStatement_80 : decode cX3_readStatement 80 = .ok (.aload_n 0, 1) := by decide +kernel
theorem dX3_readStatement_81 : decode cX3_readStatement 81 = .ok (.iconst 4, 1) := by decide +kernel
theorem dX3_readStatement_82 : decode cX3_readStatement 82 = .ok (.invokevirtual 44, 3) := by decide +kernel
theorem dX3_readStatement_85 : decode cX3_readStatement 85 = .ok (.ifCond .eq 15, 3) := by decide +kernel
theorem dX3_readStatement_88 : decode cX3_readStatement 88 = .ok (.aload_n 0, 1) := by decide +kernel
theorem dX3_readStatement_89 : decode cX3_readStatement 89 = .ok (.aload_n 1, 1) := by decide +kernel
theorem dX3_readStatement_90 : decode cX3_readStatement 90 = .ok (.invokevirtual 58, 3) := by decide +kernel
theorem dX3_readStatement_93 : decode cX3_readStatement 93 = .ok (.ifCond .eq 7, 3) := by decide +kernel
theorem dX3_readStatement_96 : decode cX3_readStatement 96 = .ok (.iconst 1, 1) := by decide +kernel
theorem dX3_readStatement_97 : decode cX3_readStatement 97 = .ok (.goto 4, 3) := by decide +kernel
theorem dX3_readStatement_100 : decode cX3_readStatement 100 = .ok (.iconst 0, 1) := by decide +kernel
theorem dX3_readStatement_101 : decode cX3_readStatement 101 = .ok (.ireturn, 1) := by decide +kernel
theorem dX3_readStatement_102 : decode cX3_readStatement 102 = .ok (.aload_n 0, 1) := by decide +kernel
theorem dX3_readStatement_103 : decode cX3_readStatement 103 = .ok (.getfield 12, 3) := by decide +kernel
theorem dX3_readStatement_106 : decode cX3_readStatement 106 = .ok (.ldc 61, 2) := by decide +kernel
theorem dX3_readStatement_108 : decode cX3_readStatement 108 = .ok (.invokevirtual 40, 3) := by decide +kernel
theorem dX3_readStatement_111 : decode cX3_readStatement 111 = .ok (.ifCond .eq 26, 3) := by decide +kernel
theorem dX3_readStatement_114 : decode cX3_readStatement 114 = .ok (.aload_n 0, 1) := by decide +kernel
theorem dX3_readStatement_115 : decode cX3_readStatement 115 = .ok (.bipush 8, 2) := by decide +kernel
theorem dX3_readStatement_117 : decode cX3_readStatement 117 = .ok (.invokevirtual 44, 3) := by decide +kernel
theorem dX3_readStatement_120 : decode cX3_readStatement 120 = .ok (.ifCond .eq 15, 3) := by decide +kernel
theorem dX3_readStatement_123 : decode cX3_readStatement 123 = .ok (.aload_n 0, 1) := by decide +kernel
theorem dX3_readStatement_124 : decode cX3_readStatement 124 = .ok (.aload_n 1, 1) := by decide +kernel
theorem dX3_readStatement_125 : decode cX3_readStatement 125 = .ok (.invokevirtual 63, 3) := by decide +kernel
theorem dX3_readStatement_128 : decode cX3_readStatement 128 = .ok (.ifCond .eq 7, 3) := by decide +kernel
theorem dX3_readStatement_131 : decode cX3_readStatement 131 = .ok (.iconst 1, 1) := by decide +kernel
theorem dX3_readStatement_132 : decode cX3_readStatement 132 = .ok (.goto 4, 3) := by decide +kernel
theorem dX3_readStatement_135 : decode cX3_readStatement 135 = .ok (.iconst 0, 1) := by decide +kernel
theorem dX3_readStatement_136 : decode cX3_readStatement 136 = .ok (.ireturn, 1) := by decide +kernel
theorem dX3_readStatement_137 : decode cX3_readStatement 137 = .ok (.aload_n 0, 1) := by decide +kernel
theorem dX3_readStatement_138 : decode cX3_readStatement 138 = .ok (.getfield 12, 3) := by decide +kernel
theorem dX3_readStatement_141 : decode cX3_readStatement 141 = .ok (.ldc 66, 2) := by decide +kernel
theorem dX3_readStatement_143 : decode cX3_readStatement 143 = .ok (.invokevirtual 40, 3) := by decide +kernel
theorem dX3_readStatement_146 : decode cX3_readStatement 146 = .ok (.ifCond .eq 9, 3) := by decide +kernel
theorem dX3_readStatement_149 : decode cX3_readStatement 149 = .ok (.aload_n 0, 1) := by decide +kernel
theorem dX3_readStatement_150 : decode cX3_readStatement 150 = .ok (.aload_n 1, 1) := by decide +kernel
theorem dX3_readStatement_151 : decode cX3_readStatement 151 = .ok (.invokevirtual 68, 3) := by decide +kernel
theorem dX3_readStatement_154 : decode cX3_readStatement 154 = .ok (.ireturn, 1) := by decide +kernel
theorem dX3_readStatement_155 : decode cX3_readStatement 155 = .ok (.aload_n 0, 1) := by decide +kernel
theorem dX3_readStatement_156 : decode cX3_readStatement 156 = .ok (.getfield 12, 3) := by decide +kernel
theorem dX3_readStatement_159 : decode cX3_readStatement 159 = .ok (.ldc 71, 2) := by decide +kernel
theorem dX3_readStatement_161 : decode cX3_readStatement 161 = .ok (.invokevirtual 40, 3) := by decide +kernel
theorem dX3_readStatement_164 : decode cX3_readStatement 164 = .ok (.ifCond .eq 9, 3) := by decide +kernel
theorem dX3_readStatement_167 : decode cX3_readStatement 167 = .ok (.aload_n 0, 1) := by decide +kernel
theorem dX3_readStatement_168 : decode cX3_readStatement 168 = .ok (.aload_n 1, 1) := by decide +kernel
theorem dX3_readStatement_169 : decode cX3_readStatement 169 = .ok (.invokevirtual 73, 3) := by decide +kernel
theorem dX3_readStatement_172 : decode cX3_readStatement 172 = .ok (.ireturn, 1) := by decide +kernel
theorem dX3_readStatement_173 : decode cX3_readStatement 173 = .ok (.aload_n 0, 1) := by decide +kernel
theorem dX3_readStatement_174 : decode cX3_readStatement 174 = .ok (.getfield 12, 3) := by decide +kernel
theorem dX3_readStatement_177 : decode cX3_readStatement 177 = .ok (.iconst 1, 1) := by decide +kernel
theorem dX3_readStatement_178 : decode cX3_readStatement 178 = .ok (.invokevirtual 76, 3) := by decide +kernel
theorem dX3_readStatement_181 : decode cX3_readStatement 181 = .ok (.ireturn, 1) := by decide +kernel
theorem dX3_tellOnce_0 : decode cX3_tellOnce 0 = .ok (.aload_n 0, 1) := by decide +kernel
theorem dX3_tellOnce_1 : decode cX3_tellOnce 1 = .ok (.getfield 23, 3) := by decide +kernel
theorem dX3_tellOnce_4 : decode cX3_tellOnce 4 = .ok (.iload_n 1, 1) := by decide +kernel
theorem dX3_tellOnce_5 : decode cX3_tellOnce 5 = .ok (.iand, 1) := by decide +kernel
theorem dX3_tellOnce_6 : decode cX3_tellOnce 6 = .ok (.ifCond .eq 12, 3) := by decide +kernel
theorem dX3_tellOnce_9 : decode cX3_tellOnce 9 = .ok (.aload_n 0, 1) := by decide +kernel
theorem dX3_tellOnce_10 : decode cX3_tellOnce 10 = .ok (.getfield 12, 3) := by decide +kernel
theorem dX3_tellOnce_13 : decode cX3_tellOnce 13 = .ok (.iconst 3, 1) := by decide +kernel
theorem dX3_tellOnce_14 : decode cX3_tellOnce 14 = .ok (.invokevirtual 76, 3) := by decide +kernel
theorem dX3_tellOnce_17 : decode cX3_tellOnce 17 = .ok (.ireturn, 1) := by decide +kernel
theorem dX3_tellOnce_18 : decode cX3_tellOnce 18 = .ok (.aload_n 0, 1) := by decide +kernel
theorem dX3_tellOnce_19 : decode cX3_tellOnce 19 = .ok (.dup, 1) := by decide +kernel
theorem dX3_tellOnce_20 : decode cX3_tellOnce 20 = .ok (.getfield 23, 3) := by decide +kernel
theorem dX3_tellOnce_23 : decode cX3_tellOnce 23 = .ok (.iload_n 1, 1) := by decide +kernel
theorem dX3_tellOnce_24 : decode cX3_tellOnce 24 = .ok (.ior, 1) := by decide +kernel
theorem dX3_tellOnce_25 : decode cX3_tellOnce 25 = .ok (.putfield 23, 3) := by decide +kernel
theorem dX3_tellOnce_28 : decode cX3_tellOnce 28 = .ok (.aload_n 0, 1) := by decide +kernel
theorem dX3_tellOnce_29 : decode cX3_tellOnce 29 = .ok (.getfield 12, 3) := by decide +kernel
theorem dX3_tellOnce_32 : decode cX3_tellOnce 32 = .ok (.invokevirtual 79, 3) := by decide +kernel
theorem dX3_tellOnce_35 : decode cX3_tellOnce 35 = .ok (.iconst 1, 1) := by decide +kernel
theorem dX3_tellOnce_36 : decode cX3_tellOnce 36 = .ok (.ireturn, 1) := by decide +kernel
theorem dX3_readCosts_0 : decode cX3_readCosts 0 = .ok (.iconst 0, 1) := by decide +kernel
theorem dX3_readCosts_1 : decode cX3_readCosts 1 = .ok (.istore_n 2, 1) := by decide +kernel
theorem dX3_readCosts_2 : decode cX3_readCosts 2 = .ok (.iload_n 2, 1) := by decide +kernel
theorem dX3_readCosts_3 : decode cX3_readCosts 3 = .ok (.iconst 4, 1) := by decide +kernel
theorem dX3_readCosts_4 : decode cX3_readCosts 4 = .ok (.if_icmp .ge 34, 3) := by decide +kernel
theorem dX3_readCosts_7 : decode cX3_readCosts 7 = .ok (.aload_n 0, 1) := by decide +kernel
theorem dX3_readCosts_8 : decode cX3_readCosts 8 = .ok (.getfield 12, 3) := by decide +kernel
theorem dX3_readCosts_11 : decode cX3_readCosts 11 = .ok (.iconst 0, 1) := by decide +kernel
theorem dX3_readCosts_12 : decode cX3_readCosts 12 = .ok (.bipush 99, 2) := by decide +kernel
theorem dX3_readCosts_14 : decode cX3_readCosts 14 = .ok (.invokevirtual 82, 3) := by decide +kernel
theorem dX3_readCosts_17 : decode cX3_readCosts 17 = .ok (.istore_n 3, 1) := by decide +kernel
theorem dX3_readCosts_18 : decode cX3_readCosts 18 = .ok (.iload_n 3, 1) := by decide +kernel
theorem dX3_readCosts_19 : decode cX3_readCosts 19 = .ok (.iconst (-1), 1) := by decide +kernel
theorem dX3_readCosts_20 : decode cX3_readCosts 20 = .ok (.if_icmp .ne 5, 3) := by decide +kernel
theorem dX3_readCosts_23 : decode cX3_readCosts 23 = .ok (.iconst 0, 1) := by decide +kernel
theorem dX3_readCosts_24 : decode cX3_readCosts 24 = .ok (.ireturn, 1) := by decide +kernel
theorem dX3_readCosts_25 : decode cX3_readCosts 25 = .ok (.aload_n 1, 1) := by decide +kernel
theorem dX3_readCosts_26 : decode cX3_readCosts 26 = .ok (.getfield 86, 3) := by decide +kernel
theorem dX3_readCosts_29 : decode cX3_readCosts 29 = .ok (.iload_n 2, 1) := by decide +kernel
theorem dX3_readCosts_30 : decode cX3_readCosts 30 = .ok (.iload_n 3, 1) := by decide +kernel
theorem dX3_readCosts_31 : decode cX3_readCosts 31 = .ok (.iastore, 1) := by decide +kernel
theorem dX3_readCosts_32 : decode cX3_readCosts 32 = .ok (.iinc 2 1, 3) := by decide +kernel
theorem dX3_readCosts_35 : decode cX3_readCosts 35 = .ok (.goto (-33), 3) := by decide +kernel
theorem dX3_readCosts_38 : decode cX3_readCosts 38 = .ok (.iconst 1, 1) := by decide +kernel
theorem dX3_readCosts_39 : decode cX3_readCosts 39 = .ok (.ireturn, 1) := by decide +kernel
theorem dX3_readSeed_0 : decode cX3_readSeed 0 = .ok (.aload_n 1, 1) := by decide +kernel
theorem dX3_readSeed_1 : decode cX3_readSeed 1 = .ok (.aload_n 0, 1) := by decide +kernel
theorem dX3_readSeed_2 : decode cX3_readSeed 2 = .ok (.getfield 12, 3) := by decide +kernel
theorem dX3_readSeed_5 : decode cX3_readSeed 5 = .ok (.iconst 0, 1) := by decide +kernel
theorem dX3_readSeed_6 : decode cX3_readSeed 6 = .ok (.sipush 999, 3) := by decide +kernel
theorem dX3_readSeed_9 : decode cX3_readSeed 9 = .ok (.invokevirtual 82, 3) := by decide +kernel
theorem dX3_readSeed_12 : decode cX3_readSeed 12 = .ok (.putfield 89, 3) := by decide +kernel
theorem dX3_readSeed_15 : decode cX3_readSeed 15 = .ok (.aload_n 1, 1) := by decide +kernel
theorem dX3_readSeed_16 : decode cX3_readSeed 16 = .ok (.getfield 89, 3) := by decide +kernel
theorem dX3_readSeed_19 : decode cX3_readSeed 19 = .ok (.iconst (-1), 1) := by decide +kernel
theorem dX3_readSeed_20 : decode cX3_readSeed 20 = .ok (.if_icmp .eq 7, 3) := by decide +kernel
theorem dX3_readSeed_23 : decode cX3_readSeed 23 = .ok (.iconst 1, 1) := by decide +kernel
theorem dX3_readSeed_24 : decode cX3_readSeed 24 = .ok (.goto 4, 3) := by decide +kernel
theorem dX3_readSeed_27 : decode cX3_readSeed 27 = .ok (.iconst 0, 1) := by decide +kernel
theorem dX3_readSeed_28 : decode cX3_readSeed 28 = .ok (.ireturn, 1) := by decide +kernel
theorem dX3_readTries_0 : decode cX3_readTries 0 = .ok (.aload_n 1, 1) := by decide +kernel
theorem dX3_readTries_1 : decode cX3_readTries 1 = .ok (.aload_n 0, 1) := by decide +kernel
theorem dX3_readTries_2 : decode cX3_readTries 2 = .ok (.getfield 12, 3) := by decide +kernel
theorem dX3_readTries_5 : decode cX3_readTries 5 = .ok (.iconst 1, 1) := by decide +kernel
theorem dX3_readTries_6 : decode cX3_readTries 6 = .ok (.bipush 9, 2) := by decide +kernel
theorem dX3_readTries_8 : decode cX3_readTries 8 = .ok (.invokevirtual 82, 3) := by decide +kernel
theorem dX3_readTries_11 : decode cX3_readTries 11 = .ok (.putfield 92, 3) := by decide +kernel
theorem dX3_readTries_14 : decode cX3_readTries 14 = .ok (.aload_n 1, 1) := by decide +kernel
theorem dX3_readTries_15 : decode cX3_readTries 15 = .ok (.getfield 92, 3) := by decide +kernel
theorem dX3_readTries_18 : decode cX3_readTries 18 = .ok (.iconst (-1), 1) := by decide +kernel
theorem dX3_readTries_19 : decode cX3_readTries 19 = .ok (.if_icmp .eq 7, 3) := by decide +kernel
theorem dX3_readTries_22 : decode cX3_readTries 22 = .ok (.iconst 1, 1) := by decide +kernel
theorem dX3_readTries_23 : decode cX3_readTries 23 = .ok (.goto 4, 3) := by decide +kernel
theorem dX3_readTries_26 : decode cX3_readTries 26 = .ok (.iconst 0, 1) := by decide +kernel
theorem dX3_readTries_27 : decode cX3_readTries 27 = .ok (.ireturn, 1) := by decide +kernel
theorem dX3_readMemory_0 : decode cX3_readMemory 0 = .ok (.aload_n 1, 1) := by decide +kernel
theorem dX3_readMemory_1 : decode cX3_readMemory 1 = .ok (.aload_n 0, 1) := by decide +kernel
theorem dX3_readMemory_2 : decode cX3_readMemory 2 = .ok (.getfield 12, 3) := by decide +kernel
theorem dX3_readMemory_5 : decode cX3_readMemory 5 = .ok (.iconst 1, 1) := by decide +kernel
theorem dX3_readMemory_6 : decode cX3_readMemory 6 = .ok (.sipush 999, 3) := by decide +kernel
theorem dX3_readMemory_9 : decode cX3_readMemory 9 = .ok (.invokevirtual 82, 3) := by decide +kernel
theorem dX3_readMemory_12 : decode cX3_readMemory 12 = .ok (.putfield 94, 3) := by decide +kernel
theorem dX3_readMemory_15 : decode cX3_readMemory 15 = .ok (.aload_n 1, 1) := by decide +kernel
theorem dX3_readMemory_16 : decode cX3_readMemory 16 = .ok (.getfield 94, 3) := by decide +kernel
theorem dX3_readMemory_19 : decode cX3_readMemory 19 = .ok (.iconst (-1), 1) := by decide +kernel
theorem dX3_readMemory_20 : decode cX3_readMemory 20 = .ok (.if_icmp .eq 7, 3) := by decide +kernel
theorem dX3_readMemory_23 : decode cX3_readMemory 23 = .ok (.iconst 1, 1) := by decide +kernel
theorem dX3_readMemory_24 : decode cX3_readMemory 24 = .ok (.goto 4, 3) := by decide +kernel
theorem dX3_readMemory_27 : decode cX3_readMemory 27 = .ok (.iconst 0, 1) := by decide +kernel
theorem dX3_readMemory_28 : decode cX3_readMemory 28 = .ok (.ireturn, 1) := by decide +kernel
theorem dX3_readBeacon_0 : decode cX3_readBeacon 0 = .ok (.aload_n 1, 1) := by decide +kernel
theorem dX3_readBeacon_1 : decode cX3_readBeacon 1 = .ok (.getfield 96, 3) := by decide +kernel
theorem dX3_readBeacon_4 : decode cX3_readBeacon 4 = .ok (.bipush 8, 2) := by decide +kernel
theorem dX3_readBeacon_6 : decode cX3_readBeacon 6 = .ok (.if_icmp .lt 12, 3) := by decide +kernel
theorem dX3_readBeacon_9 : decode cX3_readBeacon 9 = .ok (.aload_n 0, 1) := by decide +kernel
theorem dX3_readBeacon_10 : decode cX3_readBeacon 10 = .ok (.getfield 12, 3) := by decide +kernel
theorem dX3_readBeacon_13 : decode cX3_readBeacon 13 = .ok (.iconst 5, 1) := by decide +kernel
theorem dX3_readBeacon_14 : decode cX3_readBeacon 14 = .ok (.invokevirtual 76, 3) := by decide +kernel
theorem dX3_readBeacon_17 : decode cX3_readBeacon 17 = .ok (.ireturn, 1) := by decide +kernel
theorem dX3_readBeacon_18 : decode cX3_readBeacon 18 = .ok (.aload_n 1, 1) := by decide +kernel
theorem dX3_readBeacon_19 : decode cX3_readBeacon 19 = .ok (.getfield 99, 3) := by decide +kernel
theorem dX3_readBeacon_22 : decode cX3_readBeacon 22 = .ok (.aload_n 1, 1) := by decide +kernel
theorem dX3_readBeacon_23 : decode cX3_readBeacon 23 = .ok (.getfield 96, 3) := by decide +kernel
theorem dX3_readBeacon_26 : decode cX3_readBeacon 26 = .ok (.aaload, 1) := by decide +kernel
theorem dX3_readBeacon_27 : decode cX3_readBeacon 27 = .ok (.astore_n 2, 1) := by decide +kernel
theorem dX3_readBeacon_28 : decode cX3_readBeacon 28 = .ok (.aload_n 0, 1) := by decide +kernel
theorem dX3_readBeacon_29 : decode cX3_readBeacon 29 = .ok (.getfield 12, 3) := by decide +kernel
theorem dX3_readBeacon_32 : decode cX3_readBeacon 32 = .ok (.invokevirtual 79, 3) := by decide +kernel
theorem dX3_readBeacon_35 : decode cX3_readBeacon 35 = .ok (.aload_n 0, 1) := by decide +kernel
theorem dX3_readBeacon_36 : decode cX3_readBeacon 36 = .ok (.aload_n 1, 1) := by decide +kernel
theorem dX3_readBeacon_37 : decode cX3_readBeacon 37 = .ok (.aload_n 2, 1) := by decide +kernel
theorem dX3_readBeacon_38 : decode cX3_readBeacon 38 = .ok (.invokevirtual 103, 3) := by decide +kernel
theorem dX3_readBeacon_41 : decode cX3_readBeacon 41 = .ok (.ifCond .eq 15, 3) := by decide +kernel
theorem dX3_readBeacon_44 : decode cX3_readBeacon 44 = .ok (.aload_n 0, 1) := by decide +kernel
theorem dX3_readBeacon_45 : decode cX3_readBeacon 45 = .ok (.getfield 12, 3) := by decide +kernel
theorem dX3_readBeacon_48 : decode cX3_readBeacon 48 = .ok (.ldc 107, 2) := by decide +kernel
theorem dX3_readBeacon_50 : decode cX3_readBeacon 50 = .ok (.invokevirtual 109, 3) := by decide +kernel
theorem dX3_readBeacon_53 : decode cX3_readBeacon 53 = .ok (.ifCond .ne 5, 3) := by decide +kernel
theorem dX3_readBeacon_56 : decode cX3_readBeacon 56 = .ok (.iconst 0, 1) := by decide +kernel
theorem dX3_readBeacon_57 : decode cX3_readBeacon 57 = .ok (.ireturn, 1) := by decide +kernel
theorem dX3_readBeacon_58 : decode cX3_readBeacon 58 = .ok (.aload_n 0, 1) := by decide +kernel
theorem dX3_readBeacon_59 : decode cX3_readBeacon 59 = .ok (.getfield 12, 3) := by decide +kernel
theorem dX3_readBeacon_62 : decode cX3_readBeacon 62 = .ok (.iconst 2, 1) := by decide +kernel
theorem dX3_readBeacon_63 : decode cX3_readBeacon 63 = .ok (.bipush 99, 2) := by decide +kernel
theorem dX3_readBeacon_65 : decode cX3_readBeacon 65 = .ok (.invokevirtual 82, 3) := by decide +kernel
theorem dX3_readBeacon_68 : decode cX3_readBeacon 68 = .ok (.istore_n 3, 1) := by decide +kernel
theorem dX3_readBeacon_69 : decode cX3_readBeacon 69 = .ok (.iload_n 3, 1) := by decide +kernel
theorem dX3_readBeacon_70 : decode cX3_readBeacon 70 = .ok (.iconst (-1), 1) := by decide +kernel
theorem dX3_readBeacon_71 : decode cX3_readBeacon 71 = .ok (.if_icmp .ne 7, 3) := by decide +kernel
theorem dX3_readBeacon_74 : decode cX3_readBeacon 74 = .ok (.iconst (-1), 1) := by decide +kernel
theorem dX3_readBeacon_75 : decode cX3_readBeacon 75 = .ok (.goto 14, 3) := by decide +kernel
theorem dX3_readBeacon_78 : decode cX3_readBeacon 78 = .ok (.aload_n 0, 1) := by decide +kernel
theorem dX3_readBeacon_79 : decode cX3_readBeacon 79 = .ok (.ldc 112, 2) := by decide +kernel
theorem dX3_readBeacon_81 : decode cX3_readBeacon 81 = .ok (.iconst 0, 1) := by decide +kernel
theorem dX3_readBeacon_82 : decode cX3_readBeacon 82 = .ok (.iload_n 3, 1) := by decide +kernel
theorem dX3_readBeacon_83 : decode cX3_readBeacon 83 = .ok (.iconst 1, 1) := by decide +kernel
theorem dX3_readBeacon_84 : decode cX3_readBeacon 84 = .ok (.isub, 1) := by decide +kernel
theorem dX3_readBeacon_85 : decode cX3_readBeacon 85 = .ok (.iconst 0, 1) := by decide +kernel
theorem dX3_readBeacon_86 : decode cX3_readBeacon 86 = .ok (.invokevirtual 114, 3) := by decide +kernel
theorem dX3_readBeacon_89 : decode cX3_readBeacon 89 = .ok (.istore 4, 2) := by decide +kernel
theorem dX3_readBeacon_91 : decode cX3_readBeacon 91 = .ok (.iload 4, 2) := by decide +kernel
theorem dX3_readBeacon_93 : decode cX3_readBeacon 93 = .ok (.iconst (-1), 1) := by decide +kernel
theorem dX3_readBeacon_94 : decode cX3_readBeacon 94 = .ok (.if_icmp .ne 7, 3) := by decide +kernel
theorem dX3_readBeacon_97 : decode cX3_readBeacon 97 = .ok (.iconst (-1), 1) := by decide +kernel
theorem dX3_readBeacon_98 : decode cX3_readBeacon 98 = .ok (.goto 13, 3) := by decide +kernel
theorem dX3_readBeacon_101 : decode cX3_readBeacon 101 = .ok (.aload_n 0, 1) := by decide +kernel
theorem dX3_readBeacon_102 : decode cX3_readBeacon 102 = .ok (.ldc 118, 2) := by decide +kernel
theorem dX3_readBeacon_104 : decode cX3_readBeacon 104 = .ok (.iconst 1, 1) := by decide +kernel
theorem dX3_readBeacon_105 : decode cX3_readBeacon 105 = .ok (.bipush 9, 2) := by decide +kernel
theorem dX3_readBeacon_107 : decode cX3_readBeacon 107 = .ok (.iconst 2, 1) := by decide +kernel
theorem dX3_readBeacon_108 : decode cX3_readBeacon 108 = .ok (.invokevirtual 114, 3) := by decide +kernel
theorem dX3_readBeacon_111 : decode cX3_readBeacon 111 = .ok (.istore 5, 2) := by decide +kernel
theorem dX3_readBeacon_113 : decode cX3_readBeacon 113 = .ok (.iload 5, 2) := by decide +kernel
theorem dX3_readBeacon_115 : decode cX3_readBeacon 115 = .ok (.iconst (-1), 1) := by decide +kernel
theorem dX3_readBeacon_116 : decode cX3_readBeacon 116 = .ok (.if_icmp .ne 7, 3) := by decide +kernel
theorem dX3_readBeacon_119 : decode cX3_readBeacon 119 = .ok (.iconst (-1), 1) := by decide +kernel
theorem dX3_readBeacon_120 : decode cX3_readBeacon 120 = .ok (.goto 13, 3) := by decide +kernel
theorem dX3_readBeacon_123 : decode cX3_readBeacon 123 = .ok (.aload_n 0, 1) := by decide +kernel
theorem dX3_readBeacon_124 : decode cX3_readBeacon 124 = .ok (.ldc 120, 2) := by decide +kernel
theorem dX3_readBeacon_126 : decode cX3_readBeacon 126 = .ok (.iconst 1, 1) := by decide +kernel
theorem dX3_readBeacon_127 : decode cX3_readBeacon 127 = .ok (.bipush 9, 2) := by decide +kernel
theorem dX3_readBeacon_129 : decode cX3_readBeacon 129 = .ok (.iconst 2, 1) := by decide +kernel
theorem dX3_readBeacon_130 : decode cX3_readBeacon 130 = .ok (.invokevirtual 114, 3) := by decide +kernel
theorem dX3_readBeacon_133 : decode cX3_readBeacon 133 = .ok (.istore 6, 2) := by decide +kernel
theorem dX3_readBeacon_135 : decode cX3_readBeacon 135 = .ok (.iload 6, 2) := by decide +kernel
theorem dX3_readBeacon_137 : decode cX3_readBeacon 137 = .ok (.iconst (-1), 1) := by decide +kernel
theorem dX3_readBeacon_138 : decode cX3_readBeacon 138 = .ok (.if_icmp .ne 7, 3) := by decide +kernel
theorem dX3_readBeacon_141 : decode cX3_readBeacon 141 = .ok (.iconst (-1), 1) := by decide +kernel
theorem dX3_readBeacon_142 : decode cX3_readBeacon 142 = .ok (.goto 16, 3) := by decide +kernel
theorem dX3_readBeacon_145 : decode cX3_readBeacon 145 = .ok (.aload_n 0, 1) := by decide +kernel
theorem dX3_readBeacon_146 : decode cX3_readBeacon 146 = .ok (.ldc 122, 2) := by decide +kernel
theorem dX3_readBeacon_148 : decode cX3_readBeacon 148 = .ok (.iconst 1, 1) := by decide +kernel
theorem dX3_readBeacon_149 : decode cX3_readBeacon 149 = .ok (.sipush 999, 3) := by decide +kernel
theorem dX3_readBeacon_152 : decode cX3_readBeacon 152 = .ok (.sipush 999, 3) := by decide +kernel
theorem dX3_readBeacon_155 : decode cX3_readBeacon 155 = .ok (.invokevirtual 114, 3) := by decide +kernel
theorem dX3_readBeacon_158 : decode cX3_readBeacon 158 = .ok (.istore 7, 2) := by decide +kernel
theorem dX3_readBeacon_160 : decode cX3_readBeacon 160 = .ok (.iload 7, 2) := by decide +kernel
theorem dX3_readBeacon_162 : decode cX3_readBeacon 162 = .ok (.iconst (-1), 1) := by decide +kernel
theorem dX3_readBeacon_163 : decode cX3_readBeacon 163 = .ok (.if_icmp .ne 5, 3) := by decide +kernel
theorem dX3_readBeacon_166 : decode cX3_readBeacon 166 = .ok (.iconst 0, 1) := by decide +kernel
theorem dX3_readBeacon_167 : decode cX3_readBeacon 167 = .ok (.ireturn, 1) := by decide +kernel
theorem dX3_readBeacon_168 : decode cX3_readBeacon 168 = .ok (.aload_n 2, 1) := by decide +kernel
theorem dX3_readBeacon_169 : decode cX3_readBeacon 169 = .ok (.iload_n 3, 1) := by decide +kernel
theorem dX3_readBeacon_170 : decode cX3_readBeacon 170 = .ok (.putfield 124, 3) := by decide +kernel
theorem dX3_readBeacon_173 : decode cX3_readBeacon 173 = .ok (.aload_n 2, 1) := by decide +kernel
theorem dX3_readBeacon_174 : decode cX3_readBeacon 174 = .ok (.iload 4, 2) := by decide +kernel
theorem dX3_readBeacon_176 : decode cX3_readBeacon 176 = .ok (.putfield 129, 3) := by decide +kernel
theorem dX3_readBeacon_179 : decode cX3_readBeacon 179 = .ok (.aload_n 2, 1) := by decide +kernel
theorem dX3_readBeacon_180 : decode cX3_readBeacon 180 = .ok (.iload 5, 2) := by decide +kernel
theorem dX3_readBeacon_182 : decode cX3_readBeacon 182 = .ok (.putfield 132, 3) := by decide +kernel
theorem dX3_readBeacon_185 : decode cX3_readBeacon 185 = .ok (.aload_n 2, 1) := by decide +kernel
theorem dX3_readBeacon_186 : decode cX3_readBeacon 186 = .ok (.iload 6, 2) := by decide +kernel
theorem dX3_readBeacon_188 : decode cX3_readBeacon 188 = .ok (.putfield 135, 3) := by decide +kernel
theorem dX3_readBeacon_191 : decode cX3_readBeacon 191 = .ok (.aload_n 2, 1) := by decide +kernel
theorem dX3_readBeacon_192 : decode cX3_readBeacon 192 = .ok (.iload 7, 2) := by decide +kernel
theorem dX3_readBeacon_194 : decode cX3_readBeacon 194 = .ok (.putfield 138, 3) := by decide +kernel
theorem dX3_readBeacon_197 : decode cX3_readBeacon 197 = .ok (.aload_n 1, 1) := by decide +kernel
theorem dX3_readBeacon_198 : decode cX3_readBeacon 198 = .ok (.dup, 1) := by decide +kernel
theorem dX3_readBeacon_199 : decode cX3_readBeacon 199 = .ok (.getfield 96, 3) := by decide +kernel
theorem dX3_readBeacon_202 : decode cX3_readBeacon 202 = .ok (.iconst 1, 1) := by decide +kernel
theorem dX3_readBeacon_203 : decode cX3_readBeacon 203 = .ok (.iadd, 1) := by decide +kernel
theorem dX3_readBeacon_204 : decode cX3_readBeacon 204 = .ok (.putfield 96, 3) := by decide +kernel
theorem dX3_readBeacon_207 : decode cX3_readBeacon 207 = .ok (.iconst 1, 1) := by decide +kernel
theorem dX3_readBeacon_208 : decode cX3_readBeacon 208 = .ok (.ireturn, 1) := by decide +kernel
theorem dX3_takeNewName_0 : decode cX3_takeNewName 0 = .ok (.aload_n 0, 1) := by decide +kernel
theorem dX3_takeNewName_1 : decode cX3_takeNewName 1 = .ok (.getfield 12, 3) := by decide +kernel
theorem dX3_takeNewName_4 : decode cX3_takeNewName 4 = .ok (.getfield 27, 3) := by decide +kernel
theorem dX3_takeNewName_7 : decode cX3_takeNewName 7 = .ok (.iconst 1, 1) := by decide +kernel
theorem dX3_takeNewName_8 : decode cX3_takeNewName 8 = .ok (.if_icmp .eq 12, 3) := by decide +kernel
theorem dX3_takeNewName_11 : decode cX3_takeNewName 11 = .ok (.aload_n 0, 1) := by decide +kernel
theorem dX3_takeNewName_12 : decode cX3_takeNewName 12 = .ok (.getfield 12, 3) := by decide +kernel
theorem dX3_takeNewName_15 : decode cX3_takeNewName 15 = .ok (.iconst 1, 1) := by decide +kernel
theorem dX3_takeNewName_16 : decode cX3_takeNewName 16 = .ok (.invokevirtual 76, 3) := by decide +kernel
theorem dX3_takeNewName_19 : decode cX3_takeNewName 19 = .ok (.ireturn, 1) := by decide +kernel
theorem dX3_takeNewName_20 : decode cX3_takeNewName 20 = .ok (.aload_n 1, 1) := by decide +kernel
theorem dX3_takeNewName_21 : decode cX3_takeNewName 21 = .ok (.aload_n 0, 1) := by decide +kernel
theorem dX3_takeNewName_22 : decode cX3_takeNewName 22 = .ok (.getfield 12, 3) := by decide +kernel
theorem dX3_takeNewName_25 : decode cX3_takeNewName 25 = .ok (.getfield 140, 3) := by decide +kernel
theorem dX3_takeNewName_28 : decode cX3_takeNewName 28 = .ok (.invokevirtual 144, 3) := by decide +kernel
theorem dX3_takeNewName_31 : decode cX3_takeNewName 31 = .ok (.iconst (-1), 1) := by decide +kernel
theorem dX3_takeNewName_32 : decode cX3_takeNewName 32 = .ok (.if_icmp .eq 12, 3) := by decide +kernel
theorem dX3_takeNewName_35 : decode cX3_takeNewName 35 = .ok (.aload_n 0, 1) := by decide +kernel
theorem dX3_takeNewName_36 : decode cX3_takeNewName 36 = .ok (.getfield 12, 3) := by decide +kernel
theorem dX3_takeNewName_39 : decode cX3_takeNewName 39 = .ok (.iconst 3, 1) := by decide +kernel
theorem dX3_takeNewName_40 : decode cX3_takeNewName 40 = .ok (.invokevirtual 76, 3) := by decide +kernel
theorem dX3_takeNewName_43 : decode cX3_takeNewName 43 = .ok (.ireturn, 1) := by decide +kernel
theorem dX3_takeNewName_44 : decode cX3_takeNewName 44 = .ok (.aload_n 2, 1) := by decide +kernel
theorem dX3_takeNewName_45 : decode cX3_takeNewName 45 = .ok (.aload_n 0, 1) := by decide +kernel
theorem dX3_takeNewName_46 : decode cX3_takeNewName 46 = .ok (.getfield 12, 3) := by decide +kernel
theorem dX3_takeNewName_49 : decode cX3_takeNewName 49 = .ok (.getfield 140, 3) := by decide +kernel
theorem dX3_takeNewName_52 : decode cX3_takeNewName 52 = .ok (.invokevirtual 148, 3) := by decide +kernel
theorem dX3_takeNewName_55 : decode cX3_takeNewName 55 = .ok (.aload_n 0, 1) := by decide +kernel
theorem dX3_takeNewName_56 : decode cX3_takeNewName 56 = .ok (.getfield 12, 3) := by decide +kernel
theorem dX3_takeNewName_59 : decode cX3_takeNewName 59 = .ok (.invokevirtual 79, 3) := by decide +kernel
theorem dX3_takeNewName_62 : decode cX3_takeNewName 62 = .ok (.iconst 1, 1) := by decide +kernel
theorem dX3_takeNewName_63 : decode cX3_takeNewName 63 = .ok (.ireturn, 1) := by decide +kernel
theorem dX3_readPart_0 : decode cX3_readPart 0 = .ok (.aload_n 0, 1) := by decide +kernel
theorem dX3_readPart_1 : decode cX3_readPart 1 = .ok (.getfield 12, 3) := by decide +kernel
theorem dX3_readPart_4 : decode cX3_readPart 4 = .ok (.aload_n 1, 1) := by decide +kernel
theorem dX3_readPart_5 : decode cX3_readPart 5 = .ok (.invokevirtual 40, 3) := by decide +kernel
theorem dX3_readPart_8 : decode cX3_readPart 8 = .ok (.ifCond .ne 6, 3) := by decide +kernel
theorem dX3_readPart_11 : decode cX3_readPart 11 = .ok (.iload 4, 2) := by decide +kernel
theorem dX3_readPart_13 : decode cX3_readPart 13 = .ok (.ireturn, 1) := by decide +kernel
theorem dX3_readPart_14 : decode cX3_readPart 14 = .ok (.aload_n 0, 1) := by decide +kernel
theorem dX3_readPart_15 : decode cX3_readPart 15 = .ok (.getfield 12, 3) := by decide +kernel
theorem dX3_readPart_18 : decode cX3_readPart 18 = .ok (.invokevirtual 79, 3) := by decide +kernel
theorem dX3_readPart_21 : decode cX3_readPart 21 = .ok (.aload_n 0, 1) := by decide +kernel
theorem dX3_readPart_22 : decode cX3_readPart 22 = .ok (.getfield 12, 3) := by decide +kernel
theorem dX3_readPart_25 : decode cX3_readPart 25 = .ok (.iload_n 2, 1) := by decide +kernel
theorem dX3_readPart_26 : decode cX3_readPart 26 = .ok (.iload_n 3, 1) := by decide +kernel
theorem dX3_readPart_27 : decode cX3_readPart 27 = .ok (.invokevirtual 82, 3) := by decide +kernel
theorem dX3_readPart_30 : decode cX3_readPart 30 = .ok (.ireturn, 1) := by decide +kernel
theorem dX3_readNear_0 : decode cX3_readNear 0 = .ok (.aload_n 0, 1) := by decide +kernel
theorem dX3_readNear_1 : decode cX3_readNear 1 = .ok (.getfield 12, 3) := by decide +kernel
theorem dX3_readNear_4 : decode cX3_readNear 4 = .ok (.invokevirtual 79, 3) := by decide +kernel
theorem dX3_readNear_7 : decode cX3_readNear 7 = .ok (.aload_n 0, 1) := by decide +kernel
theorem dX3_readNear_8 : decode cX3_readNear 8 = .ok (.getfield 12, 3) := by decide +kernel
theorem dX3_readNear_11 : decode cX3_readNear 11 = .ok (.aload_n 1, 1) := by decide +kernel
theorem dX3_readNear_12 : decode cX3_readNear 12 = .ok (.invokevirtual 152, 3) := by decide +kernel
theorem dX3_readNear_15 : decode cX3_readNear 15 = .ok (.istore_n 2, 1) := by decide +kernel
theorem dX3_readNear_16 : decode cX3_readNear 16 = .ok (.iload_n 2, 1) := by decide +kernel
theorem dX3_readNear_17 : decode cX3_readNear 17 = .ok (.iconst (-1), 1) := by decide +kernel
theorem dX3_readNear_18 : decode cX3_readNear 18 = .ok (.if_icmp .ne 5, 3) := by decide +kernel
theorem dX3_readNear_21 : decode cX3_readNear 21 = .ok (.iconst 0, 1) := by decide +kernel
theorem dX3_readNear_22 : decode cX3_readNear 22 = .ok (.ireturn, 1) := by decide +kernel
theorem dX3_readNear_23 : decode cX3_readNear 23 = .ok (.aload_n 0, 1) := by decide +kernel
theorem dX3_readNear_24 : decode cX3_readNear 24 = .ok (.getfield 12, 3) := by decide +kernel
theorem dX3_readNear_27 : decode cX3_readNear 27 = .ok (.invokevirtual 79, 3) := by decide +kernel
theorem dX3_readNear_30 : decode cX3_readNear 30 = .ok (.aload_n 0, 1) := by decide +kernel
theorem dX3_readNear_31 : decode cX3_readNear 31 = .ok (.getfield 12, 3) := by decide +kernel
theorem dX3_readNear_34 : decode cX3_readNear 34 = .ok (.aload_n 1, 1) := by decide +kernel
theorem dX3_readNear_35 : decode cX3_readNear 35 = .ok (.invokevirtual 152, 3) := by decide +kernel
theorem dX3_readNear_38 : decode cX3_readNear 38 = .ok (.istore_n 3, 1) := by decide +kernel
theorem dX3_readNear_39 : decode cX3_readNear 39 = .ok (.iload_n 3, 1) := by decide +kernel
theorem dX3_readNear_40 : decode cX3_readNear 40 = .ok (.iconst (-1), 1) := by decide +kernel
theorem dX3_readNear_41 : decode cX3_readNear 41 = .ok (.if_icmp .ne 5, 3) := by decide +kernel
theorem dX3_readNear_44 : decode cX3_readNear 44 = .ok (.iconst 0, 1) := by decide +kernel
theorem dX3_readNear_45 : decode cX3_readNear 45 = .ok (.ireturn, 1) := by decide +kernel
theorem dX3_readNear_46 : decode cX3_readNear 46 = .ok (.iload_n 3, 1) := by decide +kernel
theorem dX3_readNear_47 : decode cX3_readNear 47 = .ok (.iload_n 2, 1) := by decide +kernel
theorem dX3_readNear_48 : decode cX3_readNear 48 = .ok (.if_icmp .eq 19, 3) := by decide +kernel
theorem dX3_readNear_51 : decode cX3_readNear 51 = .ok (.aload_n 1, 1) := by decide +kernel
theorem dX3_readNear_52 : decode cX3_readNear 52 = .ok (.getfield 99, 3) := by decide +kernel
theorem dX3_readNear_55 : decode cX3_readNear 55 = .ok (.iload_n 2, 1) := by decide +kernel
theorem dX3_readNear_56 : decode cX3_readNear 56 = .ok (.aaload, 1) := by decide +kernel
theorem dX3_readNear_57 : decode cX3_readNear 57 = .ok (.getfield 156, 3) := by decide +kernel
theorem dX3_readNear_60 : decode cX3_readNear 60 = .ok (.iload_n 3, 1) := by decide +kernel
theorem dX3_readNear_61 : decode cX3_readNear 61 = .ok (.invokestatic 158, 3) := by decide +kernel
theorem dX3_readNear_64 : decode cX3_readNear 64 = .ok (.ifCond .eq 12, 3) := by decide +kernel
theorem dX3_readNear_67 : decode cX3_readNear 67 = .ok (.aload_n 0, 1) := by decide +kernel
theorem dX3_readNear_68 : decode cX3_readNear 68 = .ok (.getfield 12, 3) := by decide +kernel
theorem dX3_readNear_71 : decode cX3_readNear 71 = .ok (.iconst 3, 1) := by decide +kernel
theorem dX3_readNear_72 : decode cX3_readNear 72 = .ok (.invokevirtual 76, 3) := by decide +kernel
theorem dX3_readNear_75 : decode cX3_readNear 75 = .ok (.ireturn, 1) := by decide +kernel
theorem dX3_readNear_76 : decode cX3_readNear 76 = .ok (.aload_n 1, 1) := by decide +kernel
theorem dX3_readNear_77 : decode cX3_readNear 77 = .ok (.iload_n 2, 1) := by decide +kernel
theorem dX3_readNear_78 : decode cX3_readNear 78 = .ok (.iload_n 3, 1) := by decide +kernel
theorem dX3_readNear_79 : decode cX3_readNear 79 = .ok (.invokevirtual 162, 3) := by decide +kernel
theorem dX3_readNear_82 : decode cX3_readNear 82 = .ok (.aload_n 0, 1) := by decide +kernel
theorem dX3_readNear_83 : decode cX3_readNear 83 = .ok (.getfield 12, 3) := by decide +kernel
theorem dX3_readNear_86 : decode cX3_readNear 86 = .ok (.invokevirtual 79, 3) := by decide +kernel
theorem dX3_readNear_89 : decode cX3_readNear 89 = .ok (.iconst 1, 1) := by decide +kernel
theorem dX3_readNear_90 : decode cX3_readNear 90 = .ok (.ireturn, 1) := by decide +kernel
theorem dX4_init_0 : decode cX4_init 0 = .ok (.aload_n 0, 1) := by decide +kernel
theorem dX4_init_1 : decode cX4_init 1 = .ok (.invokespecial 3, 3) := by decide +kernel
theorem dX4_init_4 : decode cX4_init 4 = .ok (.aload_n 0, 1) := by decide +kernel
theorem dX4_init_5 : decode cX4_init 5 = .ok (.sipush 701, 3) := by decide +kernel
theorem dX4_init_8 : decode cX4_init 8 = .ok (.newarray .int, 2) := by decide +kernel
theorem dX4_init_10 : decode cX4_init 10 = .ok (.putfield 9, 3) := by decide +kernel
theorem dX4_init_13 : decode cX4_init 13 = .ok (.aload_n 0, 1) := by decide +kernel
theorem dX4_init_14 : decode cX4_init 14 = .ok (.sipush 701, 3) := by decide +kernel
theorem dX4_init_17 : decode cX4_init 17 = .ok (.newarray .int, 2) := by decide +kernel
theorem dX4_init_19 : decode cX4_init 19 = .ok (.putfield 15, 3) := by decide +kernel
theorem dX4_init_22 : decode cX4_init 22 = .ok (.aload_n 0, 1) := by decide +kernel
theorem dX4_init_23 : decode cX4_init 23 = .ok (.sipush 701, 3) := by decide +kernel
theorem dX4_init_26 : decode cX4_init 26 = .ok (.newarray .long, 2) := by decide +kernel
theorem dX4_init_28 : decode cX4_init 28 = .ok (.putfield 18, 3) := by decide +kernel
theorem dX4_init_31 : decode cX4_init 31 = .ok (.aload_n 0, 1) := by decide +kernel
theorem dX4_init_32 : decode cX4_init 32 = .ok (.iconst (-1), 1) := by decide +kernel
theorem dX4_init_33 : decode cX4_init 33 = .ok (.putfield 22, 3) := by decide +kernel
theorem dX4_init_36 : decode cX4_init 36 = .ok (.return_, 1) := by decide +kernel
theorem dX4_begin_0 : decode cX4_begin 0 = .ok (.iload_n 2, 1) := by decide +kernel
theorem dX4_begin_1 : decode cX4_begin 1 = .ok (.aload_n 1, 1) := by decide +kernel
theorem dX4_begin_2 : decode cX4_begin 2 = .ok (.arraylength, 1) := by decide +kernel
theorem dX4_begin_3 : decode cX4_begin 3 = .ok (.invokestatic 26, 3) := by decide +kernel
theorem dX4_begin_6 : decode cX4_begin 6 = .ok (.istore_n 3, 1) := by decide +kernel
theorem dX4_begin_7 : decode cX4_begin 7 = .ok (.aload_n 0, 1) := by decide +kernel
theorem dX4_begin_8 : decode cX4_begin 8 = .ok (.iconst 0, 1) := by decide +kernel
theorem dX4_begin_9 : decode cX4_begin 9 = .ok (.putfield 32, 3) := by decide +kernel
theorem dX4_begin_12 : decode cX4_begin 12 = .ok (.aload_n 0, 1) := by decide +kernel
theorem dX4_begin_13 : decode cX4_begin 13 = .ok (.iconst 0, 1) := by decide +kernel
theorem dX4_begin_14 : decode cX4_begin 14 = .ok (.putfield 35, 3) := by decide +kernel
theorem dX4_begin_17 : decode cX4_begin 17 = .ok (.aload_n 0, 1) := by decide +kernel
theorem dX4_begin_18 : decode cX4_begin 18 = .ok (.iconst 0, 1) := by decide +kernel
theorem dX4_begin_19 : decode cX4_begin 19 = .ok (.putfield 38, 3) := by decide +kernel
theorem dX4_begin_22 : decode cX4_begin 22 = .ok (.aload_n 0, 1) := by decide +kernel
theorem dX4_begin_23 : decode cX4_begin 23 = .ok (.iconst (-1), 1) := by decide +kernel
theorem dX4_begin_24 : decode cX4_begin 24 = .ok (.putfield 22, 3) := by decide +kernel
theorem dX4_begin_27 : decode cX4_begin 27 = .ok (.iconst 0, 1) := by decide +kernel
theorem dX4_begin_28 : decode cX4_begin 28 = .ok (.istore 4, 2) := by decide +kernel
theorem dX4_begin_30 : decode cX4_begin 30 = .ok (.iconst 0, 1) := by decide +kernel
theorem dX4_begin_31 : decode cX4_begin 31 = .ok (.istore 5, 2) := by decide +kernel
theorem dX4_begin_33 : decode cX4_begin 33 = .ok (.iload 5, 2) := by decide +kernel
theorem dX4_begin_35 : decode cX4_begin 35 = .ok (.sipush 700, 3) := by decide +kernel
theorem dX4_begin_38 : decode cX4_begin 38 = .ok (.if_icmp .ge 74, 3) := by decide +kernel
theorem dX4_begin_41 : decode cX4_begin 41 = .ok (.iload 4, 2) := by decide +kernel
theorem dX4_begin_43 : decode cX4_begin 43 = .ok (.iload_n 3, 1) := by decide +kernel
theorem dX4_begin_44 : decode cX4_begin 44 = .ok (.if_icmp .ge 68, 3) := by decide +kernel
theorem dX4_begin_47 : decode cX4_begin 47 = .ok (.aload_n 1, 1) := by decide +kernel
theorem dX4_begin_48 : decode cX4_begin 48 = .ok (.iload 4, 2) := by decide +kernel
theorem dX4_begin_50 : decode cX4_begin 50 = .ok (.baload, 1) := by decide +kernel
theorem dX4_begin_51 : decode cX4_begin 51 = .ok (.invokestatic 41, 3) := by decide +kernel
theorem dX4_begin_54 : decode cX4_begin 54 = .ok (.ifCond .eq 16, 3) := by decide +kernel
theorem dX4_begin_57 : decode cX4_begin 57 = .ok (.aload_n 0, 1) := by decide +kernel
theorem dX4_begin_58 : decode cX4_begin 58 = .ok (.aload_n 1, 1) := by decide +kernel
theorem dX4_begin_59 : decode cX4_begin 59 = .ok (.iload 4, 2) := by decide +kernel
theorem dX4_begin_61 : decode cX4_begin 61 = .ok (.iload_n 3, 1) := by decide +kernel
theorem dX4_begin_62 : decode cX4_begin 62 = .ok (.invokevirtual 45, 3) := by decide +kernel
theorem dX4_begin_65 : decode cX4_begin 65 = .ok (.istore 4, 2) := by decide +kernel
theorem dX4_begin_67 : decode cX4_begin 67 = .ok (.goto 39, 3) := by decide +kernel
theorem dX4_begin_70 : decode cX4_begin 70 = .ok (.aload_n 1, 1) := by decide +kernel
theorem dX4_begin_71 : decode cX4_begin 71 = .ok (.iload 4, 2) := by decide +kernel
theorem dX4_begin_73 : decode cX4_begin 73 = .ok (.baload, 1) := by decide +kernel
theorem dX4_begin_74 : decode cX4_begin 74 = .ok (.invokestatic 49, 3) := by decide +kernel
theorem dX4_begin_77 : decode cX4_begin 77 = .ok (.ifCond .eq 16, 3) := by decide +kernel
theorem dX4_begin_80 : decode cX4_begin 80 = .ok (.aload_n 0, 1) := by decide +kernel
theorem dX4_begin_81 : decode cX4_begin 81 = .ok (.aload_n 1, 1) := by decide +kernel
theorem dX4_begin_82 : decode cX4_begin 82 = .ok (.iload 4, 2) := by decide +kernel
theorem dX4_begin_84 : decode cX4_begin 84 = .ok (.iload_n 3, 1) := by decide +kernel
theorem dX4_begin_85 : decode cX4_begin 85 = .ok (.invokevirtual 52, 3) := by decide +kernel
theorem dX4_begin_88 : decode cX4_begin 88 = .ok (.istore 4, 2) := by decide +kernel
theorem dX4_begin_90 : decode cX4_begin 90 = .ok (.goto 16, 3) := by decide +kernel
theorem dX4_begin_93 : decode cX4_begin 93 = .ok (.aload_n 0, 1) := by decide +kernel
theorem dX4_begin_94 : decode cX4_begin 94 = .ok (.aload_n 1, 1) := by decide +kernel
theorem dX4_begin_95 : decode cX4_begin 95 = .ok (.iload 4, 2) := by decide +kernel
theorem dX4_begin_97 : decode cX4_begin 97 = .ok (.baload, 1) := by decide +kernel
theorem dX4_begin_98 : decode cX4_begin 98 = .ok (.iload 4, 2) := by decide +kernel
theorem dX4_begin_100 : decode cX4_begin 100 = .ok (.invokevirtual 55, 3) := by decide +kernel
theorem dX4_begin_103 : decode cX4_begin 103 = .ok (.iinc 4 1, 3) := by decide +kernel
theorem dX4_begin_106 : decode cX4_begin 106 = .ok (.iinc 5 1, 3) := by decide +kernel
theorem dX4_begin_109 : decode cX4_begin 109 = .ok (.goto (-76), 3) := by decide +kernel
theorem dX4_begin_112 : decode cX4_begin 112 = .ok (.aload_n 0, 1) := by decide +kernel
theorem dX4_begin_113 : decode cX4_begin 113 = .ok (.iconst 0, 1) := by decide +kernel
theorem dX4_begin_114 : decode cX4_begin 114 = .ok (.iload_n 3, 1) := by decide +kernel
theorem dX4_begin_115 : decode cX4_begin 115 = .ok (.lconst 0, 1) := by decide +kernel
theorem dX4_begin_116 : decode cX4_begin 116 = .ok (.invokevirtual 59, 3) := by decide +kernel
theorem dX4_begin_119 : decode cX4_begin 119 = .ok (.aload_n 0, 1) := by decide +kernel
theorem dX4_begin_120 : decode cX4_begin 120 = .ok (.invokevirtual 63, 3) := by decide +kernel
theorem dX4_begin_123 : decode cX4_begin 123 = .ok (.return_, 1) := by decide +kernel
theorem dX4_addWord_0 : decode cX4_addWord 0 = .ok (.lconst 0, 1) := by decide +kernel
theorem dX4_addWord_1 : decode cX4_addWord 1 = .ok (.lstore 4, 2) := by decide +kernel
theorem dX4_addWord_3 : decode cX4_addWord 3 = .ok (.iload_n 2, 1) := by decide +kernel
theorem dX4_addWord_4 : decode cX4_addWord 4 = .ok (.istore 6, 2) := by decide +kernel
theorem dX4_addWord_6 : decode cX4_addWord 6 = .ok (.iload 6, 2) := by decide +kernel
theorem dX4_addWord_8 : decode cX4_addWord 8 = .ok (.iload_n 3, 1) := by decide +kernel
theorem dX4_addWord_9 : decode cX4_addWord 9 = .ok (.if_icmp .ge 46, 3) := by decide +kernel
theorem dX4_addWord_12 : decode cX4_addWord 12 = .ok (.aload_n 1, 1) := by decide +kernel
theorem dX4_addWord_13 : decode cX4_addWord 13 = .ok (.iload 6, 2) := by decide +kernel
theorem dX4_addWord_15 : decode cX4_addWord 15 = .ok (.baload, 1) := by decide +kernel
theorem dX4_addWord_16 : decode cX4_addWord 16 = .ok (.invokestatic 41, 3) := by decide +kernel
theorem dX4_addWord_19 : decode cX4_addWord 19 = .ok (.ifCond .eq 36, 3) := by decide +kernel
theorem dX4_addWord_22 : decode cX4_addWord 22 = .ok (.iload 6, 2) := by decide +kernel
theorem dX4_addWord_24 : decode cX4_addWord 24 = .ok (.iload_n 2, 1) := by decide +kernel
theorem dX4_addWord_25 : decode cX4_addWord 25 = .ok (.isub, 1) := by decide +kernel
theorem dX4_addWord_26 : decode cX4_addWord 26 = .ok (.bipush 8, 2) := by decide +kernel
theorem dX4_addWord_28 : decode cX4_addWord 28 = .ok (.if_icmp .ge 21, 3) := by decide +kernel
theorem dX4_addWord_31 : decode cX4_addWord 31 = .ok (.lload 4, 2) := by decide +kernel
theorem dX4_addWord_33 : decode cX4_addWord 33 = .ok (.aload_n 1, 1) := by decide +kernel
theorem dX4_addWord_34 : decode cX4_addWord 34 = .ok (.iload 6, 2) := by decide +kernel
theorem dX4_addWord_36 : decode cX4_addWord 36 = .ok (.baload, 1) := by decide +kernel
theorem dX4_addWord_37 : decode cX4_addWord 37 = .ok (.i2l, 1) := by decide +kernel
theorem dX4_addWord_38 : decode cX4_addWord 38 = .ok (.bipush 8, 2) := by decide +kernel
theorem dX4_addWord_40 : decode cX4_addWord 40 = .ok (.iload 6, 2) := by decide +kernel
theorem dX4_addWord_42 : decode cX4_addWord 42 = .ok (.iload_n 2, 1) := by decide +kernel
theorem dX4_addWord_43 : decode cX4_addWord 43 = .ok (.isub, 1) := by decide +kernel
theorem dX4_addWord_44 : decode cX4_addWord 44 = .ok (.imul, 1) := by decide +kernel
theorem dX4_addWord_45 : decode cX4_addWord 45 = .ok (.lshl, 1) := by decide +kernel
theorem dX4_addWord_46 : decode cX4_addWord 46 = .ok (.lor, 1) := by decide +kernel
theorem dX4_addWord_47 : decode cX4_addWord 47 = .ok (.lstore 4, 2) := by decide +kernel
theorem dX4_addWord_49 : decode cX4_addWord 49 = .ok (.iinc 6 1, 3) := by decide +kernel
theorem dX4_addWord_52 : decode cX4_addWord 52 = .ok (.goto (-46), 3) := by decide +kernel
theorem dX4_addWord_55 : decode cX4_addWord 55 = .ok (.aload_n 0, 1) := by decide +kernel
theorem dX4_addWord_56 : decode cX4_addWord 56 = .ok (.iload 6, 2) := by decide +kernel
theorem dX4_addWord_58 : decode cX4_addWord 58 = .ok (.iload_n 2, 1) := by decide +kernel
theorem dX4_addWord_59 : decode cX4_addWord 59 = .ok (.isub, 1) := by decide +kernel
theorem dX4_addWord_60 : decode cX4_addWord 60 = .ok (.bipush 8, 2) := by decide +kernel
theorem dX4_addWord_62 : decode cX4_addWord 62 = .ok (.if_icmp .le 7, 3) := by decide +kernel
theorem dX4_addWord_65 : decode cX4_addWord 65 = .ok (.iconst 3, 1) := by decide +kernel
theorem dX4_addWord_66 : decode cX4_addWord 66 = .ok (.goto 4, 3) := by decide +kernel
theorem dX4_addWord_69 : decode cX4_addWord 69 = .ok (.iconst 1, 1) := by decide +kernel
theorem dX4_addWord_70 : decode cX4_addWord 70 = .ok (.iload_n 2, 1) := by decide +kernel
theorem dX4_addWord_71 : decode cX4_addWord 71 = .ok (.lload 4, 2) := by decide +kernel
theorem dX4_addWord_73 : decode cX4_addWord 73 = .ok (.invokevirtual 59, 3) := by decide +kernel
theorem dX4_addWord_76 : decode cX4_addWord 76 = .ok (.iload 6, 2) := by decide +kernel
theorem dX4_addWord_78 : decode cX4_addWord 78 = .ok (.ireturn, 1) := by decide +kernel
theorem dX4_addNumber_0 : decode cX4_addNumber 0 = .ok (.iconst 0, 1) := by decide +kernel
theorem dX4_addNumber_1 : decode cX4_addNumber 1 = .ok (.istore 4, 2) := by decide +kernel
theorem dX4_addNumber_3 : decode cX4_addNumber 3 = .ok (.iload_n 2, 1) := by decide +kernel
theorem dX4_addNumber_4 : decode cX4_addNumber 4 = .ok (.istore 5, 2) := by decide +kernel
theorem dX4_addNumber_6 : decode cX4_addNumber 6 = .ok (.iload 5, 2) := by decide +kernel
theorem dX4_addNumber_8 : decode cX4_addNumber 8 = .ok (.iload_n 3, 1) := by decide +kernel
theorem dX4_addNumber_9 : decode cX4_addNumber 9 = .ok (.if_icmp .ge 42, 3) := by decide +kernel
theorem dX4_addNumber_12 : decode cX4_addNumber 12 = .ok (.aload_n 1, 1) := by decide +kernel
theorem dX4_addNumber_13 : decode cX4_addNumber 13 = .ok (.iload 5, 2) := by decide +kernel
theorem dX4_addNumber_15 : decode cX4_addNumber 15 = .ok (.baload, 1) := by decide +kernel
theorem dX4_addNumber_16 : decode cX4_addNumber 16 = .ok (.invokestatic 49, 3) := by decide +kernel
theorem dX4_addNumber_19 : decode cX4_addNumber 19 = .ok (.ifCond .eq 32, 3) := by decide +kernel
theorem dX4_addNumber_22 : decode cX4_addNumber 22 = .ok (.iload 5, 2) := by decide +kernel
theorem dX4_addNumber_24 : decode cX4_addNumber 24 = .ok (.iload_n 2, 1) := by decide +kernel
theorem dX4_addNumber_25 : decode cX4_addNumber 25 = .ok (.isub, 1) := by decide +kernel
theorem dX4_addNumber_26 : decode cX4_addNumber 26 = .ok (.iconst 3, 1) := by decide +kernel
theorem dX4_addNumber_27 : decode cX4_addNumber 27 = .ok (.if_icmp .ge 18, 3) := by decide +kernel
theorem dX4_addNumber_30 : decode cX4_addNumber 30 = .ok (.iload 4, 2) := by decide +kernel
theorem dX4_addNumber_32 : decode cX4_addNumber 32 = .ok (.bipush 10, 2) := by decide +kernel
theorem dX4_addNumber_34 : decode cX4_addNumber 34 = .ok (.imul, 1) := by decide +kernel
theorem dX4_addNumber_35 : decode cX4_addNumber 35 = .ok (.aload_n 1, 1) := by decide +kernel
theorem dX4_addNumber_36 : decode cX4_addNumber 36 = .ok (.iload 5, 2) := by decide +kernel
theorem dX4_addNumber_38 : decode cX4_addNumber 38 = .ok (.baload, 1) := by decide +kernel
theorem dX4_addNumber_39 : decode cX4_addNumber 39 = .ok (.iadd, 1) := by decide +kernel
theorem dX4_addNumber_40 : decode cX4_addNumber 40 = .ok (.bipush 48, 2) := by decide +kernel
theorem dX4_addNumber_42 : decode cX4_addNumber 42 = .ok (.isub, 1) := by decide +kernel
theorem dX4_addNumber_43 : decode cX4_addNumber 43 = .ok (.istore 4, 2) := by decide +kernel
theorem dX4_addNumber_45 : decode cX4_addNumber 45 = .ok (.iinc 5 1, 3) := by decide +kernel
theorem dX4_addNumber_48 : decode cX4_addNumber 48 = .ok (.goto (-42), 3) := by decide +kernel
theorem dX4_addNumber_51 : decode cX4_addNumber 51 = .ok (.aload_n 0, 1) := by decide +kernel
theorem dX4_addNumber_52 : decode cX4_addNumber 52 = .ok (.iload 5, 2) := by decide +kernel
theorem dX4_addNumber_54 : decode cX4_addNumber 54 = .ok (.iload_n 2, 1) := by decide +kernel
theorem dX4_addNumber_55 : decode cX4_addNumber 55 = .ok (.isub, 1) := by decide +kernel
theorem dX4_addNumber_56 : decode cX4_addNumber 56 = .ok (.iconst 3, 1) := by decide +kernel
theorem dX4_addNumber_57 : decode cX4_addNumber 57 = .ok (.if_icmp .le 7, 3) := by decide +kernel
theorem dX4_addNumber_60 : decode cX4_addNumber 60 = .ok (.iconst 3, 1) := by decide +kernel
theorem dX4_addNumber_61 : decode cX4_addNumber 61 = .ok (.goto 4, 3) := by decide +kernel
theorem dX4_addNumber_64 : decode cX4_addNumber 64 = .ok (.iconst 2, 1) := by decide +kernel
theorem dX4_addNumber_65 : decode cX4_addNumber 65 = .ok (.iload_n 2, 1) := by decide +kernel
theorem dX4_addNumber_66 : decode cX4_addNumber 66 = .ok (.iload 4, 2) := by decide +kernel
theorem dX4_addNumber_68 : decode cX4_addNumber 68 = .ok (.i2l, 1) := by decide +kernel
theorem dX4_addNumber_69 : decode cX4_addNumber 69 = .ok (.invokevirtual 59, 3) := by decide +kernel
theorem dX4_addNumber_72 : decode cX4_addNumber 72 = .ok (.iload 5, 2) := by decide +kernel
theorem dX4_addNumber_74 : decode cX4_addNumber 74 = .ok (.ireturn, 1) := by decide +kernel
theorem dX4_addSign_0 : decode cX4_addSign 0 = .ok (.iload_n 1, 1) := by decide +kernel
theorem dX4_addSign_1 : decode cX4_addSign 1 = .ok (.bipush 59, 2) := by decide +kernel
theorem dX4_addSign_3 : decode cX4_addSign 3 = .ok (.if_icmp .eq 15, 3) := by decide +kernel
theorem dX4_addSign_6 : decode cX4_addSign 6 = .ok (.iload_n 1, 1) := by decide +kernel
theorem dX4_addSign_7 : decode cX4_addSign 7 = .ok (.bipush 40, 2) := by decide +kernel
theorem dX4_addSign_9 : decode cX4_addSign 9 = .ok (.if_icmp .eq 9, 3) := by decide +kernel
theorem dX4_addSign_12 : decode cX4_addSign 12 = .ok (.iload_n 1, 1) := by decide +kernel
theorem dX4_addSign_13 : decode cX4_addSign 13 = .ok (.bipush 41, 2) := by decide +kernel
theorem dX4_addSign_15 : decode cX4_addSign 15 = .ok (.if_icmp .ne 13, 3) := by decide +kernel
theorem dX4_addSign_18 : decode cX4_addSign 18 = .ok (.aload_n 0, 1) := by decide +kernel
theorem dX4_addSign_19 : decode cX4_addSign 19 = .ok (.iload_n 1, 1) := by decide +kernel
theorem dX4_addSign_20 : decode cX4_addSign 20 = .ok (.iload_n 2, 1) := by decide +kernel
theorem dX4_addSign_21 : decode cX4_addSign 21 = .ok (.lconst 0, 1) := by decide +kernel
theorem dX4_addSign_22 : decode cX4_addSign 22 = .ok (.invokevirtual 59, 3) := by decide +kernel
theorem dX4_addSign_25 : decode cX4_addSign 25 = .ok (.goto 22, 3) := by decide +kernel
theorem dX4_addSign_28 : decode cX4_addSign 28 = .ok (.iload_n 1, 1) := by decide +kernel
theorem dX4_addSign_29 : decode cX4_addSign 29 = .ok (.bipush 32, 2) := by decide +kernel
theorem dX4_addSign_31 : decode cX4_addSign 31 = .ok (.if_icmp .eq 16, 3) := by decide +kernel
theorem dX4_addSign_34 : decode cX4_addSign 34 = .ok (.iload_n 1, 1) := by decide +kernel
theorem dX4_addSign_35 : decode cX4_addSign 35 = .ok (.bipush 10, 2) := by decide +kernel
theorem dX4_addSign_37 : decode cX4_addSign 37 = .ok (.if_icmp .eq 10, 3) := by decide +kernel
theorem dX4_addSign_40 : decode cX4_addSign 40 = .ok (.aload_n 0, 1) := by decide +kernel
theorem dX4_addSign_41 : decode cX4_addSign 41 = .ok (.iconst 3, 1) := by decide +kernel
theorem dX4_addSign_42 : decode cX4_addSign 42 = .ok (.iload_n 2, 1) := by decide +kernel
theorem dX4_addSign_43 : decode cX4_addSign 43 = .ok (.lconst 0, 1) := by decide +kernel
theorem dX4_addSign_44 : decode cX4_addSign 44 = .ok (.invokevirtual 59, 3) := by decide +kernel
theorem dX4_addSign_47 : decode cX4_addSign 47 = .ok (.return_, 1) := by decide +kernel
theorem dX4_add_0 : decode cX4_add 0 = .ok (.aload_n 0, 1) := by decide +kernel
theorem dX4_add_1 : decode cX4_add 1 = .ok (.getfield 32, 3) := by decide +kernel
theorem dX4_add_4 : decode cX4_add 4 = .ok (.sipush 700, 3) := by decide +kernel
theorem dX4_add_7 : decode cX4_add 7 = .ok (.if_icmp .gt 43, 3) := by decide +kernel
theorem dX4_add_10 : decode cX4_add 10 = .ok (.aload_n 0, 1) := by decide +kernel
theorem dX4_add_11 : decode cX4_add 11 = .ok (.getfield 9, 3) := by decide +kernel
theorem dX4_add_14 : decode cX4_add 14 = .ok (.aload_n 0, 1) := by decide +kernel
theorem dX4_add_15 : decode cX4_add 15 = .ok (.getfield 32, 3) := by decide +kernel
theorem dX4_add_18 : decode cX4_add 18 = .ok (.iload_n 1, 1) := by decide +kernel
theorem dX4_add_19 : decode cX4_add 19 = .ok (.iastore, 1) := by decide +kernel
theorem dX4_add_20 : decode cX4_add 20 = .ok (.aload_n 0, 1) := by decide +kernel
theorem dX4_add_21 : decode cX4_add 21 = .ok (.getfield 15, 3) := by decide +kernel
theorem dX4_add_24 : decode cX4_add 24 = .ok (.aload_n 0, 1) := by decide +kernel
theorem dX4_add_25 : decode cX4_add 25 = .ok (.getfield 32, 3) := by decide +kernel
theorem dX4_add_28 : decode cX4_add 28 = .ok (.iload_n 2, 1) := by decide +kernel
theorem dX4_add_29 : decode cX4_add 29 = .ok (.iastore, 1) := by decide +kernel
theorem dX4_add_30 : decode cX4_add 30 = .ok (.aload_n 0, 1) := by decide +kernel
theorem dX4_add_31 : decode cX4_add 31 = .ok (.getfield 18, 3) := by decide +kernel
theorem dX4_add_34 : decode cX4_add 34 = .ok (.aload_n 0, 1) := by decide +kernel
theorem dX4_add_35 : decode cX4_add 35 = .ok (.getfield 32, 3) := by decide +kernel
theorem dX4_add_38 : decode cX4_add 38 = .ok (.lload_n 3, 1) := by decide +kernel
theorem dX4_add_39 : decode cX4_add 39 = .ok (.lastore, 1) := by decide +kernel
theorem dX4_add_40 : decode cX4_add 40 = .ok (.aload_n 0, 1) := by decide +kernel
theorem dX4_add_41 : decode cX4_add 41 = .ok (.dup, 1) := by decide +kernel
theorem dX4_add_42 : decode cX4_add 42 = .ok (.getfield 32, 3) := by decide +kernel
theorem dX4_add_45 : decode cX4_add 45 = .ok (.iconst 1, 1) := by decide +kernel
theorem dX4_add_46 : decode cX4_add 46 = .ok (.iadd, 1) := by decide +kernel
theorem dX4_add_47 : decode cX4_add 47 = .ok (.putfield 32, 3) := by decide +kernel
theorem dX4_add_50 : decode cX4_add 50 = .ok (.return_, 1) := by decide +kernel
theorem dX4_isLetter_0 : decode cX4_isLetter 0 = .ok (.iload_n 0, 1) := by decide +kernel
theorem dX4_isLetter_1 : decode cX4_isLetter 1 = .ok (.bipush 97, 2) := by decide +kernel
theorem dX4_isLetter_3 : decode cX4_isLetter 3 = .ok (.if_icmp .lt 13, 3) := by decide +kernel
theorem dX4_isLetter_6 : decode cX4_isLetter 6 = .ok (.iload_n 0, 1) := by decide +kernel
theorem dX4_isLetter_7 : decode cX4_isLetter 7 = .ok (.bipush 122, 2) := by decide +kernel
theorem dX4_isLetter_9 : decode cX4_isLetter 9 = .ok (.if_icmp .gt 7, 3) := by decide +kernel
theorem dX4_isLetter_12 : decode cX4_isLetter 12 = .ok (.iconst 1, 1) := by decide +kernel
theorem dX4_isLetter_13 : decode cX4_isLetter 13 = .ok (.goto 4, 3) := by decide +kernel
theorem dX4_isLetter_16 : decode cX4_isLetter 16 = .ok (.iconst 0, 1) := by decide +kernel
theorem dX4_isLetter_17 : decode cX4_isLetter 17 = .ok (.ireturn, 1) := by decide +kernel
theorem dX4_isDigit_0 : decode cX4_isDigit 0 = .ok (.iload_n 0, 1) := by decide +kernel
theorem dX4_isDigit_1 : decode cX4_isDigit 1 = .ok (.bipush 48, 2) := by decide +kernel
theorem dX4_isDigit_3 : decode cX4_isDigit 3 = .ok (.if_icmp .lt 13, 3) := by decide +kernel
theorem dX4_isDigit_6 : decode cX4_isDigit 6 = .ok (.iload_n 0, 1) := by decide +kernel
theorem dX4_isDigit_7 : decode cX4_isDigit 7 = .ok (.bipush 57, 2) := by decide +kernel
theorem dX4_isDigit_9 : decode cX4_isDigit 9 = .ok (.if_icmp .gt 7, 3) := by decide +kernel
theorem dX4_isDigit_12 : decode cX4_isDigit 12 = .ok (.iconst 1, 1) := by decide +kernel
theorem dX4_isDigit_13 : decode cX4_isDigit 13 = .ok (.goto 4, 3) := by decide +kernel
theorem dX4_isDigit_16 : decode cX4_isDigit 16 = .ok (.iconst 0, 1) := by decide +kernel
theorem dX4_isDigit_17 : decode cX4_isDigit 17 = .ok (.ireturn, 1) := by decide +kernel
theorem dX4_advance_0 : decode cX4_advance 0 = .ok (.aload_n 0, 1) := by decide +kernel
theorem dX4_advance_1 : decode cX4_advance 1 = .ok (.getfield 35, 3) := by decide +kernel
theorem dX4_advance_4 : decode cX4_advance 4 = .ok (.aload_n 0, 1) := by decide +kernel
theorem dX4_advance_5 : decode cX4_advance 5 = .ok (.getfield 32, 3) := by decide +kernel
theorem dX4_advance_8 : decode cX4_advance 8 = .ok (.if_icmp .ge 52, 3) := by decide +kernel
theorem dX4_advance_11 : decode cX4_advance 11 = .ok (.aload_n 0, 1) := by decide +kernel
theorem dX4_advance_12 : decode cX4_advance 12 = .ok (.aload_n 0, 1) := by decide +kernel
theorem dX4_advance_13 : decode cX4_advance 13 = .ok (.getfield 9, 3) := by decide +kernel
theorem dX4_advance_16 : decode cX4_advance 16 = .ok (.aload_n 0, 1) := by decide +kernel
theorem dX4_advance_17 : decode cX4_advance 17 = .ok (.getfield 35, 3) := by decide +kernel
theorem dX4_advance_20 : decode cX4_advance 20 = .ok (.iaload, 1) := by decide +kernel
theorem dX4_advance_21 : decode cX4_advance 21 = .ok (.putfield 66, 3) := by decide +kernel
theorem dX4_advance_24 : decode cX4_advance 24 = .ok (.aload_n 0, 1) := by decide +kernel
theorem dX4_advance_25 : decode cX4_advance 25 = .ok (.aload_n 0, 1) := by decide +kernel
theorem dX4_advance_26 : decode cX4_advance 26 = .ok (.getfield 15, 3) := by decide +kernel
theorem dX4_advance_29 : decode cX4_advance 29 = .ok (.aload_n 0, 1) := by decide +kernel
theorem dX4_advance_30 : decode cX4_advance 30 = .ok (.getfield 35, 3) := by decide +kernel
theorem dX4_advance_33 : decode cX4_advance 33 = .ok (.iaload, 1) := by decide +kernel
theorem dX4_advance_34 : decode cX4_advance 34 = .ok (.putfield 69, 3) := by decide +kernel
theorem dX4_advance_37 : decode cX4_advance 37 = .ok (.aload_n 0, 1) := by decide +kernel
theorem dX4_advance_38 : decode cX4_advance 38 = .ok (.aload_n 0, 1) := by decide +kernel
theorem dX4_advance_39 : decode cX4_advance 39 = .ok (.getfield 18, 3) := by decide +kernel
theorem dX4_advance_42 : decode cX4_advance 42 = .ok (.aload_n 0, 1) := by decide +kernel
theorem dX4_advance_43 : decode cX4_advance 43 = .ok (.getfield 35, 3) := by decide +kernel
theorem dX4_advance_46 : decode cX4_advance 46 = .ok (.laload, 1) := by decide +kernel
theorem dX4_advance_47 : decode cX4_advance 47 = .ok (.putfield 72, 3) := by decide +kernel
theorem dX4_advance_50 : decode cX4_advance 50 = .ok (.aload_n 0, 1) := by decide +kernel
theorem dX4_advance_51 : decode cX4_advance 51 = .ok (.dup, 1) := by decide +kernel
theorem dX4_advance_52 : decode cX4_advance 52 = .ok (.getfield 35, 3) := by decide +kernel
theorem dX4_advance_55 : decode cX4_advance 55 = .ok (.iconst 1, 1) := by decide +kernel
theorem dX4_advance_56 : decode cX4_advance 56 = .ok (.iadd, 1) := by decide +kernel
theorem dX4_advance_57 : decode cX4_advance 57 = .ok (.putfield 35, 3) := by decide +kernel
theorem dX4_advance_60 : decode cX4_advance 60 = .ok (.return_, 1) := by decide +kernel
theorem dX4_isWord_0 : decode cX4_isWord 0 = .ok (.aload_n 0, 1) := by decide +kernel
theorem dX4_isWord_1 : decode cX4_isWord 1 = .ok (.getfield 66, 3) := by decide +kernel
theorem dX4_isWord_4 : decode cX4_isWord 4 = .ok (.iconst 1, 1) := by decide +kernel
theorem dX4_isWord_5 : decode cX4_isWord 5 = .ok (.if_icmp .ne 17, 3) := by decide +kernel
theorem dX4_isWord_8 : decode cX4_isWord 8 = .ok (.aload_n 0, 1) := by decide +kernel
theorem dX4_isWord_9 : decode cX4_isWord 9 = .ok (.getfield 72, 3) := by decide +kernel
theorem dX4_isWord_12 : decode cX4_isWord 12 = .ok (.aload_n 1, 1) := by decide +kernel
theorem dX4_isWord_13 : decode cX4_isWord 13 = .ok (.invokevirtual 76, 3) := by decide +kernel
theorem dX4_isWord_16 : decode cX4_isWord 16 = .ok (.invokestatic 82, 3) := by decide +kernel
theorem dX4_isWord_19 : decode cX4_isWord 19 = .ok (.ifCond .eq 5, 3) := by decide +kernel
theorem dX4_isWord_22 : decode cX4_isWord 22 = .ok (.iconst 0, 1) := by decide +kernel
theorem dX4_isWord_23 : decode cX4_isWord 23 = .ok (.ireturn, 1) := by decide +kernel
theorem dX4_isWord_24 : decode cX4_isWord 24 = .ok (.iconst 0, 1) := by decide +kernel
theorem dX4_isWord_25 : decode cX4_isWord 25 = .ok (.istore_n 2, 1) := by decide +kernel
theorem dX4_isWord_26 : decode cX4_isWord 26 = .ok (.iload_n 2, 1) := by decide +kernel
theorem dX4_isWord_27 : decode cX4_isWord 27 = .ok (.aload_n 1, 1) := by decide +kernel
theorem dX4_isWord_28 : decode cX4_isWord 28 = .ok (.invokevirtual 76, 3) := by decide +kernel
theorem dX4_isWord_31 : decode cX4_isWord 31 = .ok (.if_icmp .ge 27, 3) := by decide +kernel
theorem dX4_isWord_34 : decode cX4_isWord 34 = .ok (.aload_n 0, 1) := by decide +kernel
theorem dX4_isWord_35 : decode cX4_isWord 35 = .ok (.getfield 72, 3) := by decide +kernel
theorem dX4_isWord_38 : decode cX4_isWord 38 = .ok (.iload_n 2, 1) := by decide +kernel
theorem dX4_isWord_39 : decode cX4_isWord 39 = .ok (.invokestatic 82, 3) := by decide +kernel
theorem dX4_isWord_42 : decode cX4_isWord 42 = .ok (.aload_n 1, 1) := by decide +kernel
theorem dX4_isWord_43 : decode cX4_isWord 43 = .ok (.iload_n 2, 1) := by decide +kernel
theorem dX4_isWord_44 : decode cX4_isWord 44 = .ok (.invokevirtual 86, 3) := by decide +kernel
theorem dX4_isWord_47 : decode cX4_isWord 47 = .ok (.if_icmp .eq 5, 3) := by decide +kernel
theorem dX4_isWord_50 : decode cX4_isWord 50 = .ok (.iconst 0, 1) := by decide +kernel
theorem dX4_isWord_51 : decode cX4_isWord 51 = .ok (.ireturn, 1) := by decide +kernel
theorem dX4_isWord_52 : decode cX4_isWord 52 = .ok (.iinc 2 1, 3) := by decide +kernel
theorem dX4_isWord_55 : decode cX4_isWord 55 = .ok (.goto (-29), 3) := by decide +kernel
theorem dX4_isWord_58 : decode cX4_isWord 58 = .ok (.iconst 1, 1) := by decide +kernel
theorem dX4_isWord_59 : decode cX4_isWord 59 = .ok (.ireturn, 1) := by decide +kernel
theorem dX4_fail_0 : decode cX4_fail 0 = .ok (.aload_n 0, 1) := by decide +kernel
theorem dX4_fail_1 : decode cX4_fail 1 = .ok (.iload_n 1, 1) := by decide +kernel
theorem dX4_fail_2 : decode cX4_fail 2 = .ok (.putfield 38, 3) := by decide +kernel
theorem dX4_fail_5 : decode cX4_fail 5 = .ok (.aload_n 0, 1) := by decide +kernel
theorem dX4_fail_6 : decode cX4_fail 6 = .ok (.aload_n 0, 1) := by decide +kernel
theorem dX4_fail_7 : decode cX4_fail 7 = .ok (.getfield 69, 3) := by decide +kernel
theorem dX4_fail_10 : decode cX4_fail 10 = .ok (.putfield 22, 3) := by decide +kernel
theorem dX4_fail_13 : decode cX4_fail 13 = .ok (.iconst 0, 1) := by decide +kernel
theorem dX4_fail_14 : decode cX4_fail 14 = .ok (.ireturn, 1) := by decide +kernel
theorem dX4_takeWord_0 : decode cX4_takeWord 0 = .ok (.aload_n 0, 1) := by decide +kernel
theorem dX4_takeWord_1 : decode cX4_takeWord 1 = .ok (.aload_n 1, 1) := by decide +kernel
theorem dX4_takeWord_2 : decode cX4_takeWord 2 = .ok (.invokevirtual 90, 3) := by decide +kernel
theorem dX4_takeWord_5 : decode cX4_takeWord 5 = .ok (.ifCond .ne 9, 3) := by decide +kernel
theorem dX4_takeWord_8 : decode cX4_takeWord 8 = .ok (.aload_n 0, 1) := by decide +kernel
theorem dX4_takeWord_9 : decode cX4_takeWord 9 = .ok (.iconst 1, 1) := by decide +kernel
theorem dX4_takeWord_10 : decode cX4_takeWord 10 = .ok (.invokevirtual 94, 3) := by decide +kernel
theorem dX4_takeWord_13 : decode cX4_takeWord 13 = .ok (.ireturn, 1) := by decide +kernel
theorem dX4_takeWord_14 : decode cX4_takeWord 14 = .ok (.aload_n 0, 1) := by decide +kernel
theorem dX4_takeWord_15 : decode cX4_takeWord 15 = .ok (.invokevirtual 63, 3) := by decide +kernel
theorem dX4_takeWord_18 : decode cX4_takeWord 18 = .ok (.iconst 1, 1) := by decide +kernel
theorem dX4_takeWord_19 : decode cX4_takeWord 19 = .ok (.ireturn, 1) := by decide +kernel
theorem dX4_takeSign_0 : decode cX4_takeSign 0 = .ok (.aload_n 0, 1) := by decide +kernel
theorem dX4_takeSign_1 : decode cX4_takeSign 1 = .ok (.getfield 66, 3) := by decide +kernel
theorem dX4_takeSign_4 : decode cX4_takeSign 4 = .ok (.iload_n 1, 1) := by decide +kernel
theorem dX4_takeSign_5 : decode cX4_takeSign 5 = .ok (.if_icmp .eq 9, 3) := by decide +kernel
theorem dX4_takeSign_8 : decode cX4_takeSign 8 = .ok (.aload_n 0, 1) := by decide +kernel
theorem dX4_takeSign_9 : decode cX4_takeSign 9 = .ok (.iconst 1, 1) := by decide +kernel
theorem dX4_takeSign_10 : decode cX4_takeSign 10 = .ok (.invokevirtual 94, 3) := by decide +kernel
theorem dX4_takeSign_13 : decode cX4_takeSign 13 = .ok (.ireturn, 1) := by decide +kernel
theorem dX4_takeSign_14 : decode cX4_takeSign 14 = .ok (.aload_n 0, 1) := by decide +kernel
theorem dX4_takeSign_15 : decode cX4_takeSign 15 = .ok (.invokevirtual 63, 3) := by decide +kernel
theorem dX4_takeSign_18 : decode cX4_takeSign 18 = .ok (.iconst 1, 1) := by decide +kernel
theorem dX4_takeSign_19 : decode cX4_takeSign 19 = .ok (.ireturn, 1) := by decide +kernel
theorem dX4_takeNumber_0 : decode cX4_takeNumber 0 = .ok (.aload_n 0, 1) := by decide +kernel
theorem dX4_takeNumber_1 : decode cX4_takeNumber 1 = .ok (.getfield 66, 3) := by decide +kernel
theorem dX4_takeNumber_4 : decode cX4_takeNumber 4 = .ok (.iconst 2, 1) := by decide +kernel
theorem dX4_takeNumber_5 : decode cX4_takeNumber 5 = .ok (.if_icmp .eq 11, 3) := by decide +kernel
theorem dX4_takeNumber_8 : decode cX4_takeNumber 8 = .ok (.aload_n 0, 1) := by decide +kernel
theorem dX4_takeNumber_9 : decode cX4_takeNumber 9 = .ok (.iconst 1, 1) := by decide +kernel
theorem dX4_takeNumber_10 : decode cX4_takeNumber 10 = .ok (.invokevirtual 94, 3) := by decide +kernel
theorem dX4_takeNumber_13 : decode cX4_takeNumber 13 = .ok (.pop, 1) := by decide +kernel
theorem dX4_takeNumber_14 : decode cX4_takeNumber 14 = .ok (.iconst (-1), 1) := by decide +kernel
theorem dX4_takeNumber_15 : decode cX4_takeNumber 15 = .ok (.ireturn, 1) := by decide +kernel
theorem dX4_takeNumber_16 : decode cX4_takeNumber 16 = .ok (.aload_n 0, 1) := by decide +kernel
theorem dX4_takeNumber_17 : decode cX4_takeNumber 17 = .ok (.getfield 72, 3) := by decide +kernel
theorem dX4_takeNumber_20 : decode cX4_takeNumber 20 = .ok (.iload_n 1, 1) := by decide +kernel
theorem dX4_takeNumber_21 : decode cX4_takeNumber 21 = .ok (.i2l, 1) := by decide +kernel
theorem dX4_takeNumber_22 : decode cX4_takeNumber 22 = .ok (.lcmp, 1) := by decide +kernel
theorem dX4_takeNumber_23 : decode cX4_takeNumber 23 = .ok (.ifCond .lt 13, 3) := by decide +kernel
theorem dX4_takeNumber_26 : decode cX4_takeNumber 26 = .ok (.aload_n 0, 1) := by decide +kernel
theorem dX4_takeNumber_27 : decode cX4_takeNumber 27 = .ok (.getfield 72, 3) := by decide +kernel
theorem dX4_takeNumber_30 : decode cX4_takeNumber 30 = .ok (.iload_n 2, 1) := by decide +kernel
theorem dX4_takeNumber_31 : decode cX4_takeNumber 31 = .ok (.i2l, 1) := by decide +kernel
theorem dX4_takeNumber_32 : decode cX4_takeNumber 32 = .ok (.lcmp, 1) := by decide +kernel
theorem dX4_takeNumber_33 : decode cX4_takeNumber 33 = .ok (.ifCond .le 11, 3) := by decide +kernel
theorem dX4_takeNumber_36 : decode cX4_takeNumber 36 = .ok (.aload_n 0, 1) := by decide +kernel
theorem dX4_takeNumber_37 : decode cX4_takeNumber 37 = .ok (.iconst 2, 1) := by decide +kernel
theorem dX4_takeNumber_38 : decode cX4_takeNumber 38 = .ok (.invokevirtual 94, 3) := by decide +kernel
theorem dX4_takeNumber_41 : decode cX4_takeNumber 41 = .ok (.pop, 1) := by decide +kernel
theorem dX4_takeNumber_42 : decode cX4_takeNumber 42 = .ok (.iconst (-1), 1) := by decide +kernel
theorem dX4_takeNumber_43 : decode cX4_takeNumber 43 = .ok (.ireturn, 1) := by decide +kernel
theorem dX4_takeNumber_44 : decode cX4_takeNumber 44 = .ok (.aload_n 0, 1) := by decide +kernel
theorem dX4_takeNumber_45 : decode cX4_takeNumber 45 = .ok (.getfield 72, 3) := by decide +kernel
theorem dX4_takeNumber_48 : decode cX4_takeNumber 48 = .ok (.l2i, 1) := by decide +kernel
theorem dX4_takeNumber_49 : decode cX4_takeNumber 49 = .ok (.istore_n 3, 1) := by decide +kernel
theorem dX4_takeNumber_50 : decode cX4_takeNumber 50 = .ok (.aload_n 0, 1) := by decide +kernel
theorem dX4_takeNumber_51 : decode cX4_takeNumber 51 = .ok (.invokevirtual 63, 3) := by decide +kernel
theorem dX4_takeNumber_54 : decode cX4_takeNumber 54 = .ok (.iload_n 3, 1) := by decide +kernel
theorem dX4_takeNumber_55 : decode cX4_takeNumber 55 = .ok (.ireturn, 1) := by decide +kernel
theorem dX4_beaconHere_0 : decode cX4_beaconHere 0 = .ok (.aload_n 0, 1) := by decide +kernel
theorem dX4_beaconHere_1 : decode cX4_beaconHere 1 = .ok (.getfield 66, 3) := by decide +kernel
theorem dX4_beaconHere_4 : decode cX4_beaconHere 4 = .ok (.iconst 1, 1) := by decide +kernel
theorem dX4_beaconHere_5 : decode cX4_beaconHere 5 = .ok (.if_icmp .eq 11, 3) := by decide +kernel
theorem dX4_beaconHere_8 : decode cX4_beaconHere 8 = .ok (.aload_n 0, 1) := by decide +kernel
theorem dX4_beaconHere_9 : decode cX4_beaconHere 9 = .ok (.iconst 1, 1) := by decide +kernel
theorem dX4_beaconHere_10 : decode cX4_beaconHere 10 = .ok (.invokevirtual 94, 3) := by decide +kernel
theorem dX4_beaconHere_13 : decode cX4_beaconHere 13 = .ok (.pop, 1) := by decide +kernel
theorem dX4_beaconHere_14 : decode cX4_beaconHere 14 = .ok (.iconst (-1), 1) := by decide +kernel
theorem dX4_beaconHere_15 : decode cX4_beaconHere 15 = .ok (.ireturn, 1) := by decide +kernel
theorem dX4_beaconHere_16 : decode cX4_beaconHere 16 = .ok (.aload_n 1, 1) := by decide +kernel
theorem dX4_beaconHere_17 : decode cX4_beaconHere 17 = .ok (.aload_n 0, 1) := by decide +kernel
theorem dX4_beaconHere_18 : decode cX4_beaconHere 18 = .ok (.getfield 72, 3) := by decide +kernel
theorem dX4_beaconHere_21 : decode cX4_beaconHere 21 = .ok (.invokevirtual 97, 3) := by decide +kernel
theorem dX4_beaconHere_24 : decode cX4_beaconHere 24 = .ok (.istore_n 2, 1) := by decide +kernel
theorem dX4_beaconHere_25 : decode cX4_beaconHere 25 = .ok (.iload_n 2, 1) := by decide +kernel
theorem dX4_beaconHere_26 : decode cX4_beaconHere 26 = .ok (.iconst (-1), 1) := by decide +kernel
theorem dX4_beaconHere_27 : decode cX4_beaconHere 27 = .ok (.if_icmp .ne 9, 3) := by decide +kernel
theorem dX4_beaconHere_30 : decode cX4_beaconHere 30 = .ok (.aload_n 0, 1) := by decide +kernel
theorem dX4_beaconHere_31 : decode cX4_beaconHere 31 = .ok (.iconst 4, 1) := by decide +kernel
theorem dX4_beaconHere_32 : decode cX4_beaconHere 32 = .ok (.invokevirtual 94, 3) := by decide +kernel
theorem dX4_beaconHere_35 : decode cX4_beaconHere 35 = .ok (.pop, 1) := by decide +kernel
theorem dX4_beaconHere_36 : decode cX4_beaconHere 36 = .ok (.iload_n 2, 1) := by decide +kernel
theorem dX4_beaconHere_37 : decode cX4_beaconHere 37 = .ok (.ireturn, 1) := by decide +kernel
theorem dX5_init_0 : decode cX5_init 0 = .ok (.aload_n 0, 1) := by decide +kernel
theorem dX5_init_1 : decode cX5_init 1 = .ok (.invokespecial 3, 3) := by decide +kernel
theorem dX5_init_4 : decode cX5_init 4 = .ok (.aload_n 0, 1) := by decide +kernel
theorem dX5_init_5 : decode cX5_init 5 = .ok (.iconst 4, 1) := by decide +kernel
theorem dX5_init_6 : decode cX5_init 6 = .ok (.newarray .int, 2) := by decide +kernel
theorem dX5_init_8 : decode cX5_init 8 = .ok (.putfield 9, 3) := by decide +kernel
theorem dX5_init_11 : decode cX5_init 11 = .ok (.aload_n 0, 1) := by decide +kernel
theorem dX5_init_12 : decode cX5_init 12 = .ok (.bipush 8, 2) := by decide +kernel
theorem dX5_init_14 : decode cX5_init 14 = .ok (.anewarray 15, 3) := by decide +kernel
theorem dX5_init_17 : decode cX5_init 17 = .ok (.putfield 17, 3) := by decide +kernel
theorem dX5_init_20 : decode cX5_init 20 = .ok (.iconst 0, 1) := by decide +kernel
theorem dX5_init_21 : decode cX5_init 21 = .ok (.istore_n 1, 1) := by decide +kernel
theorem dX5_init_22 : decode cX5_init 22 = .ok (.iload_n 1, 1) := by decide +kernel
theorem dX5_init_23 : decode cX5_init 23 = .ok (.bipush 8, 2) := by decide +kernel
theorem dX5_init_25 : decode cX5_init 25 = .ok (.if_icmp .ge 22, 3) := by decide +kernel
theorem dX5_init_28 : decode cX5_init 28 = .ok (.aload_n 0, 1) := by decide +kernel
theorem dX5_init_29 : decode cX5_init 29 = .ok (.getfield 17, 3) := by decide +kernel
theorem dX5_init_32 : decode cX5_init 32 = .ok (.iload_n 1, 1) := by decide +kernel
theorem dX5_init_33 : decode cX5_init 33 = .ok (.new 15, 3) := by decide +kernel
theorem dX5_init_36 : decode cX5_init 36 = .ok (.dup, 1) := by decide +kernel
theorem dX5_init_37 : decode cX5_init 37 = .ok (.invokespecial 21, 3) := by decide +kernel
theorem dX5_init_40 : decode cX5_init 40 = .ok (.aastore, 1) := by decide +kernel
theorem dX5_init_41 : decode cX5_init 41 = .ok (.iinc 1 1, 3) := by decide +kernel
theorem dX5_init_44 : decode cX5_init 44 = .ok (.goto (-22), 3) := by decide +kernel
theorem dX5_init_47 : decode cX5_init 47 = .ok (.aload_n 0, 1) := by decide +kernel
theorem dX5_init_48 : decode cX5_init 48 = .ok (.invokevirtual 22, 3) := by decide +kernel
theorem dX5_init_51 : decode cX5_init 51 = .ok (.return_, 1) := by decide +kernel
theorem dX5_clear_0 : decode cX5_clear 0 = .ok (.aload_n 0, 1) := by decide +kernel
theorem dX5_clear_1 : decode cX5_clear 1 = .ok (.iconst 0, 1) := by decide +kernel
theorem dX5_clear_2 : decode cX5_clear 2 = .ok (.putfield 25, 3) := by decide +kernel
theorem dX5_clear_5 : decode cX5_clear 5 = .ok (.aload_n 0, 1) := by decide +kernel
theorem dX5_clear_6 : decode cX5_clear 6 = .ok (.getfield 9, 3) := by decide +kernel
theorem dX5_clear_9 : decode cX5_clear 9 = .ok (.iconst 0, 1) := by decide +kernel
theorem dX5_clear_10 : decode cX5_clear 10 = .ok (.iconst 1, 1) := by decide +kernel
theorem dX5_clear_11 : decode cX5_clear 11 = .ok (.iastore, 1) := by decide +kernel
theorem dX5_clear_12 : decode cX5_clear 12 = .ok (.aload_n 0, 1) := by decide +kernel
theorem dX5_clear_13 : decode cX5_clear 13 = .ok (.getfield 9, 3) := by decide +kernel
theorem dX5_clear_16 : decode cX5_clear 16 = .ok (.iconst 1, 1) := by decide +kernel
theorem dX5_clear_17 : decode cX5_clear 17 = .ok (.iconst 5, 1) := by decide +kernel
theorem dX5_clear_18 : decode cX5_clear 18 = .ok (.iastore, 1) := by decide +kernel
theorem dX5_clear_19 : decode cX5_clear 19 = .ok (.aload_n 0, 1) := by decide +kernel
theorem dX5_clear_20 : decode cX5_clear 20 = .ok (.getfield 9, 3) := by decide +kernel
theorem dX5_clear_23 : decode cX5_clear 23 = .ok (.iconst 2, 1) := by decide +kernel
theorem dX5_clear_24 : decode cX5_clear 24 = .ok (.iconst 3, 1) := by decide +kernel
theorem dX5_clear_25 : decode cX5_clear 25 = .ok (.iastore, 1) := by decide +kernel
theorem dX5_clear_26 : decode cX5_clear 26 = .ok (.aload_n 0, 1) := by decide +kernel
theorem dX5_clear_27 : decode cX5_clear 27 = .ok (.getfield 9, 3) := by decide +kernel
theorem dX5_clear_30 : decode cX5_clear 30 = .ok (.iconst 3, 1) := by decide +kernel
theorem dX5_clear_31 : decode cX5_clear 31 = .ok (.bipush 9, 2) := by decide +kernel
theorem dX5_clear_33 : decode cX5_clear 33 = .ok (.iastore, 1) := by decide +kernel
theorem dX5_clear_34 : decode cX5_clear 34 = .ok (.aload_n 0, 1) := by decide +kernel
theorem dX5_clear_35 : decode cX5_clear 35 = .ok (.iconst 1, 1) := by decide +kernel
theorem dX5_clear_36 : decode cX5_clear 36 = .ok (.putfield 29, 3) := by decide +kernel
theorem dX5_clear_39 : decode cX5_clear 39 = .ok (.aload_n 0, 1) := by decide +kernel
theorem dX5_clear_40 : decode cX5_clear 40 = .ok (.iconst 3, 1) := by decide +kernel
theorem dX5_clear_41 : decode cX5_clear 41 = .ok (.putfield 32, 3) := by decide +kernel
theorem dX5_clear_44 : decode cX5_clear 44 = .ok (.aload_n 0, 1) := by decide +kernel
theorem dX5_clear_45 : decode cX5_clear 45 = .ok (.bipush 99, 2) := by decide +kernel
theorem dX5_clear_47 : decode cX5_clear 47 = .ok (.putfield 35, 3) := by decide +kernel
theorem dX5_clear_50 : decode cX5_clear 50 = .ok (.aload_n 0, 1) := by decide +kernel
theorem dX5_clear_51 : decode cX5_clear 51 = .ok (.iconst 0, 1) := by decide +kernel
theorem dX5_clear_52 : decode cX5_clear 52 = .ok (.putfield 38, 3) := by decide +kernel
theorem dX5_clear_55 : decode cX5_clear 55 = .ok (.aload_n 0, 1) := by decide +kernel
theorem dX5_clear_56 : decode cX5_clear 56 = .ok (.iconst 0, 1) := by decide +kernel
theorem dX5_clear_57 : decode cX5_clear 57 = .ok (.putfield 41, 3) := by decide +kernel
theorem dX5_clear_60 : decode cX5_clear 60 = .ok (.aload_n 0, 1) := by decide +kernel
theorem dX5_clear_61 : decode cX5_clear 61 = .ok (.iconst 0, 1) := by decide +kernel
theorem dX5_clear_62 : decode cX5_clear 62 = .ok (.putfield 44, 3) := by decide +kernel
theorem dX5_clear_65 : decode cX5_clear 65 = .ok (.aload_n 0, 1) := by decide +kernel
theorem dX5_clear_66 : decode cX5_clear 66 = .ok (.iconst 0, 1) := by decide +kernel
theorem dX5_clear_67 : decode cX5_clear 67 = .ok (.putfield 47, 3) := by decide +kernel
theorem dX5_clear_70 : decode cX5_clear 70 = .ok (.aload_n 0, 1) := by decide +kernel
theorem dX5_clear_71 : decode cX5_clear 71 = .ok (.iconst 0, 1) := by decide +kernel
theorem dX5_clear_72 : decode cX5_clear 72 = .ok (.putfield 50, 3) := by decide +kernel
theorem dX5_clear_75 : decode cX5_clear 75 = .ok (.return_, 1) := by decide +kernel
theorem dX5_copyFrom_0 : decode cX5_copyFrom 0 = .ok (.aload_n 0, 1) := by decide +kernel
theorem dX5_copyFrom_1 : decode cX5_copyFrom 1 = .ok (.aload_n 1, 1) := by decide +kernel
theorem dX5_copyFrom_2 : decode cX5_copyFrom 2 = .ok (.getfield 25, 3) := by decide +kernel
theorem dX5_copyFrom_5 : decode cX5_copyFrom 5 = .ok (.putfield 25, 3) := by decide +kernel
theorem dX5_copyFrom_8 : decode cX5_copyFrom 8 = .ok (.aload_n 0, 1) := by decide +kernel
theorem dX5_copyFrom_9 : decode cX5_copyFrom 9 = .ok (.aload_n 1, 1) := by decide +kernel
theorem dX5_copyFrom_10 : decode cX5_copyFrom 10 = .ok (.getfield 32, 3) := by decide +kernel
theorem dX5_copyFrom_13 : decode cX5_copyFrom 13 = .ok (.putfield 32, 3) := by decide +kernel
theorem dX5_copyFrom_16 : decode cX5_copyFrom 16 = .ok (.aload_n 0, 1) := by decide +kernel
theorem dX5_copyFrom_17 : decode cX5_copyFrom 17 = .ok (.aload_n 1, 1) := by decide +kernel
theorem dX5_copyFrom_18 : decode cX5_copyFrom 18 = .ok (.getfield 35, 3) := by decide +kernel
theorem dX5_copyFrom_21 : decode cX5_copyFrom 21 = .ok (.putfield 35, 3) := by decide +kernel
theorem dX5_copyFrom_24 : decode cX5_copyFrom 24 = .ok (.aload_n 0, 1) := by decide +kernel
theorem dX5_copyFrom_25 : decode cX5_copyFrom 25 = .ok (.aload_n 1, 1) := by decide +kernel
theorem dX5_copyFrom_26 : decode cX5_copyFrom 26 = .ok (.getfield 38, 3) := by decide +kernel
theorem dX5_copyFrom_29 : decode cX5_copyFrom 29 = .ok (.putfield 38, 3) := by decide +kernel
theorem dX5_copyFrom_32 : decode cX5_copyFrom 32 = .ok (.aload_n 0, 1) := by decide +kernel
theorem dX5_copyFrom_33 : decode cX5_copyFrom 33 = .ok (.aload_n 1, 1) := by decide +kernel
theorem dX5_copyFrom_34 : decode cX5_copyFrom 34 = .ok (.getfield 29, 3) := by decide +kernel
theorem dX5_copyFrom_37 : decode cX5_copyFrom 37 = .ok (.putfield 29, 3) := by decide +kernel
theorem dX5_copyFrom_40 : decode cX5_copyFrom 40 = .ok (.aload_n 0, 1) := by decide +kernel
theorem dX5_copyFrom_41 : decode cX5_copyFrom 41 = .ok (.aload_n 1, 1) := by decide +kernel
theorem dX5_copyFrom_42 : decode cX5_copyFrom 42 = .ok (.getfield 41, 3) := by decide +kernel
theorem dX5_copyFrom_45 : decode cX5_copyFrom 45 = .ok (.putfield 41, 3) := by decide +kernel
theorem dX5_copyFrom_48 : decode cX5_copyFrom 48 = .ok (.aload_n 0, 1) := by decide +kernel
theorem dX5_copyFrom_49 : decode cX5_copyFrom 49 = .ok (.aload_n 1, 1) := by decide +kernel
theorem dX5_copyFrom_50 : decode cX5_copyFrom 50 = .ok (.getfield 44, 3) := by decide +kernel
theorem dX5_copyFrom_53 : decode cX5_copyFrom 53 = .ok (.putfield 44, 3) := by decide +kernel
theorem dX5_copyFrom_56 : decode cX5_copyFrom 56 = .ok (.aload_n 0, 1) := by decide +kernel
theorem dX5_copyFrom_57 : decode cX5_copyFrom 57 = .ok (.aload_n 1, 1) := by decide +kernel
theorem dX5_copyFrom_58 : decode cX5_copyFrom 58 = .ok (.getfield 47, 3) := by decide +kernel
theorem dX5_copyFrom_61 : decode cX5_copyFrom 61 = .ok (.putfield 47, 3) := by decide +kernel
theorem dX5_copyFrom_64 : decode cX5_copyFrom 64 = .ok (.aload_n 0, 1) := by decide +kernel
theorem dX5_copyFrom_65 : decode cX5_copyFrom 65 = .ok (.aload_n 1, 1) := by decide +kernel
theorem dX5_copyFrom_66 : decode cX5_copyFrom 66 = .ok (.getfield 50, 3) := by decide +kernel
theorem dX5_copyFrom_69 : decode cX5_copyFrom 69 = .ok (.putfield 50, 3) := by decide +kernel
theorem dX5_copyFrom_72 : decode cX5_copyFrom 72 = .ok (.iconst 0, 1) := by decide +kernel
theorem dX5_copyFrom_73 : decode cX5_copyFrom 73 = .ok (.istore_n 2, 1) := by decide +kernel
theorem dX5_copyFrom_74 : decode cX5_copyFrom 74 = .ok (.iload_n 2, 1) := by decide +kernel
theorem dX5_copyFrom_75 : decode cX5_copyFrom 75 = .ok (.iconst 4, 1) := by decide +kernel
theorem dX5_copyFrom_76 : decode cX5_copyFrom 76 = .ok (.if_icmp .ge 21, 3) := by decide +kernel
theorem dX5_copyFrom_79 : decode cX5_copyFrom 79 = .ok (.aload_n 0, 1) := by decide +kernel
theorem dX5_copyFrom_80 : decode cX5_copyFrom 80 = .ok (.getfield 9, 3) := by decide +kernel
theorem dX5_copyFrom_83 : decode cX5_copyFrom 83 = .ok (.iload_n 2, 1) := by decide +kernel
theorem dX5_copyFrom_84 : decode cX5_copyFrom 84 = .ok (.aload_n 1, 1) := by decide +kernel
theorem dX5_copyFrom_85 : decode cX5_copyFrom 85 = .ok (.getfield 9, 3) := by decide +kernel
theorem dX5_copyFrom_88 : decode cX5_copyFrom 88 = .ok (.iload_n 2, 1) := by decide +kernel
theorem dX5_copyFrom_89 : decode cX5_copyFrom 89 = .ok (.iaload, 1) := by decide +kernel
theorem dX5_copyFrom_90 : decode cX5_copyFrom 90 = .ok (.iastore, 1) := by decide +kernel
theorem dX5_copyFrom_91 : decode cX5_copyFrom 91 = .ok (.iinc 2 1, 3) := by decide +kernel
theorem dX5_copyFrom_94 : decode cX5_copyFrom 94 = .ok (.goto (-20), 3) := by decide +kernel
theorem dX5_copyFrom_97 : decode cX5_copyFrom 97 = .ok (.iconst 0, 1) := by decide +kernel
theorem dX5_copyFrom_98 : decode cX5_copyFrom 98 = .ok (.istore_n 2, 1) := by decide +kernel
theorem dX5_copyFrom_99 : decode cX5_copyFrom 99 = .ok (.iload_n 2, 1) := by decide +kernel
theorem dX5_copyFrom_100 : decode cX5_copyFrom 100 = .ok (.aload_n 0, 1) := by decide +kernel
theorem dX5_copyFrom_101 : decode cX5_copyFrom 101 = .ok (.getfield 25, 3) := by decide +kernel
theorem dX5_copyFrom_104 : decode cX5_copyFrom 104 = .ok (.if_icmp .ge 24, 3) := by decide +kernel
theorem dX5_copyFrom_107 : decode cX5_copyFrom 107 = .ok (.aload_n 0, 1) := by decide +kernel
theorem dX5_copyFrom_108 : decode cX5_copyFrom 108 = .ok (.getfield 17, 3) := by decide +kernel
theorem dX5_copyFrom_111 : decode cX5_copyFrom 111 = .ok (.iload_n 2, 1) := by decide +kernel
theorem dX5_copyFrom_112 : decode cX5_copyFrom 112 = .ok (.aaload, 1) := by decide +kernel
theorem dX5_copyFrom_113 : decode cX5_copyFrom 113 = .ok (.aload_n 1, 1) := by decide +kernel
theorem dX5_copyFrom_114 : decode cX5_copyFrom 114 = .ok (.getfield 17, 3) := by decide +kernel
theorem dX5_copyFrom_117 : decode cX5_copyFrom 117 = .ok (.iload_n 2, 1) := by decide +kernel
theorem dX5_copyFrom_118 : decode cX5_copyFrom 118 = .ok (.aaload, 1) := by decide +kernel
theorem dX5_copyFrom_119 : decode cX5_copyFrom 119 = .ok (.invokevirtual 53, 3) := by decide +kernel
theorem dX5_copyFrom_122 : decode cX5_copyFrom 122 = .ok (.iinc 2 1, 3) := by decide +kernel
theorem dX5_copyFrom_125 : decode cX5_copyFrom 125 = .ok (.goto (-26), 3) := by decide +kernel
theorem dX5_copyFrom_128 : decode cX5_copyFrom 128 = .ok (.return_, 1) := by decide +kernel
theorem dX5_find_0 : decode cX5_find 0 = .ok (.iconst 0, 1) := by decide +kernel
theorem dX5_find_1 : decode cX5_find 1 = .ok (.istore_n 3, 1) := by decide +kernel
theorem dX5_find_2 : decode cX5_find 2 = .ok (.iload_n 3, 1) := by decide +kernel
theorem dX5_find_3 : decode cX5_find 3 = .ok (.aload_n 0, 1) := by decide +kernel
theorem dX5_find_4 : decode cX5_find 4 = .ok (.getfield 25, 3) := by decide +kernel
theorem dX5_find_7 : decode cX5_find 7 = .ok (.if_icmp .ge 25, 3) := by decide +kernel
theorem dX5_find_10 : decode cX5_find 10 = .ok (.aload_n 0, 1) := by decide +kernel
theorem dX5_find_11 : decode cX5_find 11 = .ok (.getfield 17, 3) := by decide +kernel
theorem dX5_find_14 : decode cX5_find 14 = .ok (.iload_n 3, 1) := by decide +kernel
theorem dX5_find_15 : decode cX5_find 15 = .ok (.aaload, 1) := by decide +kernel
theorem dX5_find_16 : decode cX5_find 16 = .ok (.getfield 57, 3) := by decide +kernel
theorem dX5_find_19 : decode cX5_find 19 = .ok (.lload_n 1, 1) := by decide +kernel
theorem dX5_find_20 : decode cX5_find 20 = .ok (.lcmp, 1) := by decide +kernel
theorem dX5_find_21 : decode cX5_find 21 = .ok (.ifCond .ne 5, 3) := by decide +kernel
theorem dX5_find_24 : decode cX5_find 24 = .ok (.iload_n 3, 1) := by decide +kernel
theorem dX5_find_25 : decode cX5_find 25 = .ok (.ireturn, 1) := by decide +kernel
theorem dX5_find_26 : decode cX5_find 26 = .ok (.iinc 3 1, 3) := by decide +kernel
theorem dX5_find_29 : decode cX5_find 29 = .ok (.goto (-27), 3) := by decide +kernel
theorem dX5_find_32 : decode cX5_find 32 = .ok (.iconst (-1), 1) := by decide +kernel
theorem dX5_find_33 : decode cX5_find 33 = .ok (.ireturn, 1) := by decide +kernel
theorem dX5_nearPairs_0 : decode cX5_nearPairs 0 = .ok (.iconst 0, 1) := by decide +kernel
theorem dX5_nearPairs_1 : decode cX5_nearPairs 1 = .ok (.istore_n 1, 1) := by decide +kernel
theorem dX5_nearPairs_2 : decode cX5_nearPairs 2 = .ok (.iconst 0, 1) := by decide +kernel
theorem dX5_nearPairs_3 : decode cX5_nearPairs 3 = .ok (.istore_n 2, 1) := by decide +kernel
theorem dX5_nearPairs_4 : decode cX5_nearPairs 4 = .ok (.iload_n 2, 1) := by decide +kernel
theorem dX5_nearPairs_5 : decode cX5_nearPairs 5 = .ok (.aload_n 0, 1) := by decide +kernel
theorem dX5_nearPairs_6 : decode cX5_nearPairs 6 = .ok (.getfield 25, 3) := by decide +kernel
theorem dX5_nearPairs_9 : decode cX5_nearPairs 9 = .ok (.if_icmp .ge 24, 3) := by decide +kernel
theorem dX5_nearPairs_12 : decode cX5_nearPairs 12 = .ok (.iload_n 1, 1) := by decide +kernel
theorem dX5_nearPairs_13 : decode cX5_nearPairs 13 = .ok (.aload_n 0, 1) := by decide +kernel
theorem dX5_nearPairs_14 : decode cX5_nearPairs 14 = .ok (.getfield 17, 3) := by decide +kernel
theorem dX5_nearPairs_17 : decode cX5_nearPairs 17 = .ok (.iload_n 2, 1) := by decide +kernel
theorem dX5_nearPairs_18 : decode cX5_nearPairs 18 = .ok (.aaload, 1) := by decide +kernel
theorem dX5_nearPairs_19 : decode cX5_nearPairs 19 = .ok (.getfield 61, 3) := by decide +kernel
theorem dX5_nearPairs_22 : decode cX5_nearPairs 22 = .ok (.invokestatic 64, 3) := by decide +kernel
theorem dX5_nearPairs_25 : decode cX5_nearPairs 25 = .ok (.iadd, 1) := by decide +kernel
theorem dX5_nearPairs_26 : decode cX5_nearPairs 26 = .ok (.istore_n 1, 1) := by decide +kernel
theorem dX5_nearPairs_27 : decode cX5_nearPairs 27 = .ok (.iinc 2 1, 3) := by decide +kernel
theorem dX5_nearPairs_30 : decode cX5_nearPairs 30 = .ok (.goto (-26), 3) := by decide +kernel
theorem dX5_nearPairs_33 : decode cX5_nearPairs 33 = .ok (.iload_n 1, 1) := by decide +kernel
theorem dX5_nearPairs_34 : decode cX5_nearPairs 34 = .ok (.ireturn, 1) := by decide +kernel
theorem dX5_inState_0 : decode cX5_inState 0 = .ok (.iconst 0, 1) := by decide +kernel
theorem dX5_inState_1 : decode cX5_inState 1 = .ok (.istore_n 2, 1) := by decide +kernel
theorem dX5_inState_2 : decode cX5_inState 2 = .ok (.iconst 0, 1) := by decide +kernel
theorem dX5_inState_3 : decode cX5_inState 3 = .ok (.istore_n 3, 1) := by decide +kernel
theorem dX5_inState_4 : decode cX5_inState 4 = .ok (.iload_n 3, 1) := by decide +kernel
theorem dX5_inState_5 : decode cX5_inState 5 = .ok (.aload_n 0, 1) := by decide +kernel
theorem dX5_inState_6 : decode cX5_inState 6 = .ok (.getfield 25, 3) := by decide +kernel
theorem dX5_inState_9 : decode cX5_inState 9 = .ok (.if_icmp .ge 28, 3) := by decide +kernel
theorem dX5_inState_12 : decode cX5_inState 12 = .ok (.aload_n 0, 1) := by decide +kernel
theorem dX5_inState_13 : decode cX5_inState 13 = .ok (.getfield 17, 3) := by decide +kernel
theorem dX5_inState_16 : decode cX5_inState 16 = .ok (.iload_n 3, 1) := by decide +kernel
theorem dX5_inState_17 : decode cX5_inState 17 = .ok (.aaload, 1) := by decide +kernel
theorem dX5_inState_18 : decode cX5_inState 18 = .ok (.getfield 70, 3) := by decide +kernel
theorem dX5_inState_21 : decode cX5_inState 21 = .ok (.iload_n 1, 1) := by decide +kernel
theorem dX5_inState_22 : decode cX5_inState 22 = .ok (.if_icmp .ne 9, 3) := by decide +kernel
theorem dX5_inState_25 : decode cX5_inState 25 = .ok (.iload_n 2, 1) := by decide +kernel
theorem dX5_inState_26 : decode cX5_inState 26 = .ok (.iconst 1, 1) := by decide +kernel
theorem dX5_inState_27 : decode cX5_inState 27 = .ok (.iload_n 3, 1) := by decide +kernel
theorem dX5_inState_28 : decode cX5_inState 28 = .ok (.ishl, 1) := by decide +kernel
theorem dX5_inState_29 : decode cX5_inState 29 = .ok (.ior, 1) := by decide +kernel
theorem dX5_inState_30 : decode cX5_inState 30 = .ok (.istore_n 2, 1) := by decide +kernel
theorem dX5_inState_31 : decode cX5_inState 31 = .ok (.iinc 3 1, 3) := by decide +kernel
theorem dX5_inState_34 : decode cX5_inState 34 = .ok (.goto (-30), 3) := by decide +kernel
theorem dX5_inState_37 : decode cX5_inState 37 = .ok (.iload_n 2, 1) := by decide +kernel
theorem dX5_inState_38 : decode cX5_inState 38 = .ok (.ireturn, 1) := by decide +kernel
theorem dX5_outCount_0 : decode cX5_outCount 0 = .ok (.aload_n 0, 1) := by decide +kernel
theorem dX5_outCount_1 : decode cX5_outCount 1 = .ok (.iconst 4, 1) := by decide +kernel
theorem dX5_outCount_2 : decode cX5_outCount 2 = .ok (.invokevirtual 73, 3) := by decide +kernel
theorem dX5_outCount_5 : decode cX5_outCount 5 = .ok (.invokestatic 64, 3) := by decide +kernel
theorem dX5_outCount_8 : decode cX5_outCount 8 = .ok (.ireturn, 1) := by decide +kernel
theorem dX5_knownTo_0 : decode cX5_knownTo 0 = .ok (.iconst 0, 1) := by decide +kernel
theorem dX5_knownTo_1 : decode cX5_knownTo 1 = .ok (.istore_n 2, 1) := by decide +kernel
theorem dX5_knownTo_2 : decode cX5_knownTo 2 = .ok (.iconst 0, 1) := by decide +kernel
theorem dX5_knownTo_3 : decode cX5_knownTo 3 = .ok (.istore_n 3, 1) := by decide +kernel
theorem dX5_knownTo_4 : decode cX5_knownTo 4 = .ok (.iload_n 3, 1) := by decide +kernel
theorem dX5_knownTo_5 : decode cX5_knownTo 5 = .ok (.aload_n 0, 1) := by decide +kernel
theorem dX5_knownTo_6 : decode cX5_knownTo 6 = .ok (.getfield 25, 3) := by decide +kernel
theorem dX5_knownTo_9 : decode cX5_knownTo 9 = .ok (.if_icmp .ge 43, 3) := by decide +kernel
theorem dX5_knownTo_12 : decode cX5_knownTo 12 = .ok (.aload_n 1, 1) := by decide +kernel
theorem dX5_knownTo_13 : decode cX5_knownTo 13 = .ok (.getfield 76, 3) := by decide +kernel
theorem dX5_knownTo_16 : decode cX5_knownTo 16 = .ok (.iload_n 3, 1) := by decide +kernel
theorem dX5_knownTo_17 : decode cX5_knownTo 17 = .ok (.iaload, 1) := by decide +kernel
theorem dX5_knownTo_18 : decode cX5_knownTo 18 = .ok (.istore 4, 2) := by decide +kernel
theorem dX5_knownTo_20 : decode cX5_knownTo 20 = .ok (.iload 4, 2) := by decide +kernel
theorem dX5_knownTo_22 : decode cX5_knownTo 22 = .ok (.iconst (-1), 1) := by decide +kernel
theorem dX5_knownTo_23 : decode cX5_knownTo 23 = .ok (.if_icmp .eq 23, 3) := by decide +kernel
theorem dX5_knownTo_26 : decode cX5_knownTo 26 = .ok (.aload_n 0, 1) := by decide +kernel
theorem dX5_knownTo_27 : decode cX5_knownTo 27 = .ok (.getfield 38, 3) := by decide +kernel
theorem dX5_knownTo_30 : decode cX5_knownTo 30 = .ok (.iload 4, 2) := by decide +kernel
theorem dX5_knownTo_32 : decode cX5_knownTo 32 = .ok (.isub, 1) := by decide +kernel
theorem dX5_knownTo_33 : decode cX5_knownTo 33 = .ok (.aload_n 0, 1) := by decide +kernel
theorem dX5_knownTo_34 : decode cX5_knownTo 34 = .ok (.getfield 35, 3) := by decide +kernel
theorem dX5_knownTo_37 : decode cX5_knownTo 37 = .ok (.if_icmp .gt 9, 3) := by decide +kernel
theorem dX5_knownTo_40 : decode cX5_knownTo 40 = .ok (.iload_n 2, 1) := by decide +kernel
theorem dX5_knownTo_41 : decode cX5_knownTo 41 = .ok (.iconst 1, 1) := by decide +kernel
theorem dX5_knownTo_42 : decode cX5_knownTo 42 = .ok (.iload_n 3, 1) := by decide +kernel
theorem dX5_knownTo_43 : decode cX5_knownTo 43 = .ok (.ishl, 1) := by decide +kernel
theorem dX5_knownTo_44 : decode cX5_knownTo 44 = .ok (.ior, 1) := by decide +kernel
theorem dX5_knownTo_45 : decode cX5_knownTo 45 = .ok (.istore_n 2, 1) := by decide +kernel
theorem dX5_knownTo_46 : decode cX5_knownTo 46 = .ok (.iinc 3 1, 3) := by decide +kernel
theorem dX5_knownTo_49 : decode cX5_knownTo 49 = .ok (.goto (-45), 3) := by decide +kernel
theorem dX5_knownTo_52 : decode cX5_knownTo 52 = .ok (.iload_n 2, 1) := by decide +kernel
theorem dX5_knownTo_53 : decode cX5_knownTo 53 = .ok (.ireturn, 1) := by decide +kernel
theorem dX5_isAllKnown_0 : decode cX5_isAllKnown 0 = .ok (.iconst 0, 1) := by decide +kernel
theorem dX5_isAllKnown_1 : decode cX5_isAllKnown 1 = .ok (.istore_n 1, 1) := by decide +kernel
theorem dX5_isAllKnown_2 : decode cX5_isAllKnown 2 = .ok (.iload_n 1, 1) := by decide +kernel
theorem dX5_isAllKnown_3 : decode cX5_isAllKnown 3 = .ok (.aload_n 0, 1) := by decide +kernel
theorem dX5_isAllKnown_4 : decode cX5_isAllKnown 4 = .ok (.getfield 25, 3) := by decide +kernel
theorem dX5_isAllKnown_7 : decode cX5_isAllKnown 7 = .ok (.if_icmp .ge 36, 3) := by decide +kernel
theorem dX5_isAllKnown_10 : decode cX5_isAllKnown 10 = .ok (.aload_n 0, 1) := by decide +kernel
theorem dX5_isAllKnown_11 : decode cX5_isAllKnown 11 = .ok (.getfield 17, 3) := by decide +kernel
theorem dX5_isAllKnown_14 : decode cX5_isAllKnown 14 = .ok (.iload_n 1, 1) := by decide +kernel
theorem dX5_isAllKnown_15 : decode cX5_isAllKnown 15 = .ok (.aaload, 1) := by decide +kernel
theorem dX5_isAllKnown_16 : decode cX5_isAllKnown 16 = .ok (.getfield 61, 3) := by decide +kernel
theorem dX5_isAllKnown_19 : decode cX5_isAllKnown 19 = .ok (.aload_n 0, 1) := by decide +kernel
theorem dX5_isAllKnown_20 : decode cX5_isAllKnown 20 = .ok (.aload_n 0, 1) := by decide +kernel
theorem dX5_isAllKnown_21 : decode cX5_isAllKnown 21 = .ok (.getfield 17, 3) := by decide +kernel
theorem dX5_isAllKnown_24 : decode cX5_isAllKnown 24 = .ok (.iload_n 1, 1) := by decide +kernel
theorem dX5_isAllKnown_25 : decode cX5_isAllKnown 25 = .ok (.aaload, 1) := by decide +kernel
theorem dX5_isAllKnown_26 : decode cX5_isAllKnown 26 = .ok (.invokevirtual 79, 3) := by decide +kernel
theorem dX5_isAllKnown_29 : decode cX5_isAllKnown 29 = .ok (.iconst (-1), 1) := by decide +kernel
theorem dX5_isAllKnown_30 : decode cX5_isAllKnown 30 = .ok (.ixor, 1) := by decide +kernel
theorem dX5_isAllKnown_31 : decode cX5_isAllKnown 31 = .ok (.iand, 1) := by decide +kernel
theorem dX5_isAllKnown_32 : decode cX5_isAllKnown 32 = .ok (.ifCond .eq 5, 3) := by decide +kernel
theorem dX5_isAllKnown_35 : decode cX5_isAllKnown 35 = .ok (.iconst 0, 1) := by decide +kernel
theorem dX5_isAllKnown_36 : decode cX5_isAllKnown 36 = .ok (.ireturn, 1) := by decide +kernel
theorem dX5_isAllKnown_37 : decode cX5_isAllKnown 37 = .ok (.iinc 1 1, 3) := by decide +kernel
theorem dX5_isAllKnown_40 : decode cX5_isAllKnown 40 = .ok (.goto (-38), 3) := by decide +kernel
theorem dX5_isAllKnown_43 : decode cX5_isAllKnown 43 = .ok (.iconst 1, 1) := by decide +kernel
theorem dX5_isAllKnown_44 : decode cX5_isAllKnown 44 = .ok (.ireturn, 1) := by decide +kernel
theorem dX5_withNear_0 : decode cX5_withNear 0 = .ok (.iload_n 1, 1) := by decide +kernel
theorem dX5_withNear_1 : decode cX5_withNear 1 = .ok (.istore_n 2, 1) := by decide +kernel
theorem dX5_withNear_2 : decode cX5_withNear 2 = .ok (.iconst 0, 1) := by decide +kernel
theorem dX5_withNear_3 : decode cX5_withNear 3 = .ok (.istore_n 3, 1) := by decide +kernel
theorem dX5_withNear_4 : decode cX5_withNear 4 = .ok (.iload_n 3, 1) := by decide +kernel
theorem dX5_withNear_5 : decode cX5_withNear 5 = .ok (.aload_n 0, 1) := by decide +kernel
theorem dX5_withNear_6 : decode cX5_withNear 6 = .ok (.getfield 25, 3) := by decide +kernel
theorem dX5_withNear_9 : decode cX5_withNear 9 = .ok (.if_icmp .ge 29, 3) := by decide +kernel
theorem dX5_withNear_12 : decode cX5_withNear 12 = .ok (.iload_n 1, 1) := by decide +kernel
theorem dX5_withNear_13 : decode cX5_withNear 13 = .ok (.iload_n 3, 1) := by decide +kernel
theorem dX5_withNear_14 : decode cX5_withNear 14 = .ok (.invokestatic 83, 3) := by decide +kernel
theorem dX5_withNear_17 : decode cX5_withNear 17 = .ok (.ifCond .eq 15, 3) := by decide +kernel
theorem dX5_withNear_20 : decode cX5_withNear 20 = .ok (.iload_n 2, 1) := by decide +kernel
theorem dX5_withNear_21 : decode cX5_withNear 21 = .ok (.aload_n 0, 1) := by decide +kernel
theorem dX5_withNear_22 : decode cX5_withNear 22 = .ok (.getfield 17, 3) := by decide +kernel
theorem dX5_withNear_25 : decode cX5_withNear 25 = .ok (.iload_n 3, 1) := by decide +kernel
theorem dX5_withNear_26 : decode cX5_withNear 26 = .ok (.aaload, 1) := by decide +kernel
theorem dX5_withNear_27 : decode cX5_withNear 27 = .ok (.getfield 61, 3) := by decide +kernel
theorem dX5_withNear_30 : decode cX5_withNear 30 = .ok (.ior, 1) := by decide +kernel
theorem dX5_withNear_31 : decode cX5_withNear 31 = .ok (.istore_n 2, 1) := by decide +kernel
theorem dX5_withNear_32 : decode cX5_withNear 32 = .ok (.iinc 3 1, 3) := by decide +kernel
theorem dX5_withNear_35 : decode cX5_withNear 35 = .ok (.goto (-31), 3) := by decide +kernel
theorem dX5_withNear_38 : decode cX5_withNear 38 = .ok (.iload_n 2, 1) := by decide +kernel
theorem dX5_withNear_39 : decode cX5_withNear 39 = .ok (.ireturn, 1) := by decide +kernel
theorem dX5_withAllReached_0 : decode cX5_withAllReached 0 = .ok (.iload_n 1, 1) := by decide +kernel
theorem dX5_withAllReached_1 : decode cX5_withAllReached 1 = .ok (.istore_n 2, 1) := by decide +kernel
theorem dX5_withAllReached_2 : decode cX5_withAllReached 2 = .ok (.iconst 1, 1) := by decide +kernel
theorem dX5_withAllReached_3 : decode cX5_withAllReached 3 = .ok (.istore_n 3, 1) := by decide +kernel
theorem dX5_withAllReached_4 : decode cX5_withAllReached 4 = .ok (.iload_n 3, 1) := by decide +kernel
theorem dX5_withAllReached_5 : decode cX5_withAllReached 5 = .ok (.bipush 8, 2) := by decide +kernel
theorem dX5_withAllReached_7 : decode cX5_withAllReached 7 = .ok (.if_icmp .ge 15, 3) := by decide +kernel
theorem dX5_withAllReached_10 : decode cX5_withAllReached 10 = .ok (.aload_n 0, 1) := by decide +kernel
theorem dX5_withAllReached_11 : decode cX5_withAllReached 11 = .ok (.iload_n 2, 1) := by decide +kernel
theorem dX5_withAllReached_12 : decode cX5_withAllReached 12 = .ok (.invokevirtual 87, 3) := by decide +kernel
theorem dX5_withAllReached_15 : decode cX5_withAllReached 15 = .ok (.istore_n 2, 1) := by decide +kernel
theorem dX5_withAllReached_16 : decode cX5_withAllReached 16 = .ok (.iinc 3 1, 3) := by decide +kernel
theorem dX5_withAllReached_19 : decode cX5_withAllReached 19 = .ok (.goto (-15), 3) := by decide +kernel
theorem dX5_withAllReached_22 : decode cX5_withAllReached 22 = .ok (.iload_n 2, 1) := by decide +kernel
theorem dX5_withAllReached_23 : decode cX5_withAllReached 23 = .ok (.ireturn, 1) := by decide +kernel
theorem dX5_switchNear_0 : decode cX5_switchNear 0 = .ok (.aload_n 0, 1) := by decide +kernel
theorem dX5_switchNear_1 : decode cX5_switchNear 1 = .ok (.getfield 17, 3) := by decide +kernel
theorem dX5_switchNear_4 : decode cX5_switchNear 4 = .ok (.iload_n 1, 1) := by decide +kernel
theorem dX5_switchNear_5 : decode cX5_switchNear 5 = .ok (.aaload, 1) := by decide +kernel
theorem dX5_switchNear_6 : decode cX5_switchNear 6 = .ok (.dup, 1) := by decide +kernel
theorem dX5_switchNear_7 : decode cX5_switchNear 7 = .ok (.getfield 61, 3) := by decide +kernel
theorem dX5_switchNear_10 : decode cX5_switchNear 10 = .ok (.iconst 1, 1) := by decide +kernel
theorem dX5_switchNear_11 : decode cX5_switchNear 11 = .ok (.iload_n 2, 1) := by decide +kernel
theorem dX5_switchNear_12 : decode cX5_switchNear 12 = .ok (.ishl, 1) := by decide +kernel
theorem dX5_switchNear_13 : decode cX5_switchNear 13 = .ok (.ixor, 1) := by decide +kernel
theorem dX5_switchNear_14 : decode cX5_switchNear 14 = .ok (.putfield 61, 3) := by decide +kernel
theorem dX5_switchNear_17 : decode cX5_switchNear 17 = .ok (.aload_n 0, 1) := by decide +kernel
theorem dX5_switchNear_18 : decode cX5_switchNear 18 = .ok (.getfield 17, 3) := by decide +kernel
theorem dX5_switchNear_21 : decode cX5_switchNear 21 = .ok (.iload_n 2, 1) := by decide +kernel
theorem dX5_switchNear_22 : decode cX5_switchNear 22 = .ok (.aaload, 1) := by decide +kernel
theorem dX5_switchNear_23 : decode cX5_switchNear 23 = .ok (.dup, 1) := by decide +kernel
theorem dX5_switchNear_24 : decode cX5_switchNear 24 = .ok (.getfield 61, 3) := by decide +kernel
theorem dX5_switchNear_27 : decode cX5_switchNear 27 = .ok (.iconst 1, 1) := by decide +kernel
theorem dX5_switchNear_28 : decode cX5_switchNear 28 = .ok (.iload_n 1, 1) := by decide +kernel
theorem dX5_switchNear_29 : decode cX5_switchNear 29 = .ok (.ishl, 1) := by decide +kernel
theorem dX5_switchNear_30 : decode cX5_switchNear 30 = .ok (.ixor, 1) := by decide +kernel
theorem dX5_switchNear_31 : decode cX5_switchNear 31 = .ok (.putfield 61, 3) := by decide +kernel
theorem dX5_switchNear_34 : decode cX5_switchNear 34 = .ok (.return_, 1) := by decide +kernel
theorem dX5_mayPass_0 : decode cX5_mayPass 0 = .ok (.iload_n 1, 1) := by decide +kernel
theorem dX5_mayPass_1 : decode cX5_mayPass 1 = .ok (.iconst 1, 1) := by decide +kernel
theorem dX5_mayPass_2 : decode cX5_mayPass 2 = .ok (.if_icmp .lt 24, 3) := by decide +kernel
theorem dX5_mayPass_5 : decode cX5_mayPass 5 = .ok (.iload_n 1, 1) := by decide +kernel
theorem dX5_mayPass_6 : decode cX5_mayPass 6 = .ok (.bipush 99, 2) := by decide +kernel
theorem dX5_mayPass_8 : decode cX5_mayPass 8 = .ok (.if_icmp .gt 18, 3) := by decide +kernel
theorem dX5_mayPass_11 : decode cX5_mayPass 11 = .ok (.aload_n 0, 1) := by decide +kernel
theorem dX5_mayPass_12 : decode cX5_mayPass 12 = .ok (.getfield 38, 3) := by decide +kernel
theorem dX5_mayPass_15 : decode cX5_mayPass 15 = .ok (.iload_n 1, 1) := by decide +kernel
theorem dX5_mayPass_16 : decode cX5_mayPass 16 = .ok (.iadd, 1) := by decide +kernel
theorem dX5_mayPass_17 : decode cX5_mayPass 17 = .ok (.ldc 90, 2) := by decide +kernel
theorem dX5_mayPass_19 : decode cX5_mayPass 19 = .ok (.if_icmp .gt 7, 3) := by decide +kernel
theorem dX5_mayPass_22 : decode cX5_mayPass 22 = .ok (.iconst 1, 1) := by decide +kernel
theorem dX5_mayPass_23 : decode cX5_mayPass 23 = .ok (.goto 4, 3) := by decide +kernel
theorem dX5_mayPass_26 : decode cX5_mayPass 26 = .ok (.iconst 0, 1) := by decide +kernel
theorem dX5_mayPass_27 : decode cX5_mayPass 27 = .ok (.ireturn, 1) := by decide +kernel
theorem dX5_pass_0 : decode cX5_pass 0 = .ok (.iconst 0, 1) := by decide +kernel
theorem dX5_pass_1 : decode cX5_pass 1 = .ok (.istore_n 2, 1) := by decide +kernel
theorem dX5_pass_2 : decode cX5_pass 2 = .ok (.iload_n 2, 1) := by decide +kernel
theorem dX5_pass_3 : decode cX5_pass 3 = .ok (.iload_n 1, 1) := by decide +kernel
theorem dX5_pass_4 : decode cX5_pass 4 = .ok (.if_icmp .ge 35, 3) := by decide +kernel
theorem dX5_pass_7 : decode cX5_pass 7 = .ok (.aload_n 0, 1) := by decide +kernel
theorem dX5_pass_8 : decode cX5_pass 8 = .ok (.dup, 1) := by decide +kernel
theorem dX5_pass_9 : decode cX5_pass 9 = .ok (.getfield 38, 3) := by decide +kernel
theorem dX5_pass_12 : decode cX5_pass 12 = .ok (.iconst 1, 1) := by decide +kernel
theorem dX5_pass_13 : decode cX5_pass 13 = .ok (.iadd, 1) := by decide +kernel
theorem dX5_pass_14 : decode cX5_pass 14 = .ok (.putfield 38, 3) := by decide +kernel
theorem dX5_pass_17 : decode cX5_pass 17 = .ok (.aload_n 0, 1) := by decide +kernel
theorem dX5_pass_18 : decode cX5_pass 18 = .ok (.invokevirtual 91, 3) := by decide +kernel
theorem dX5_pass_21 : decode cX5_pass 21 = .ok (.aload_n 0, 1) := by decide +kernel
theorem dX5_pass_22 : decode cX5_pass 22 = .ok (.invokevirtual 94, 3) := by decide +kernel
theorem dX5_pass_25 : decode cX5_pass 25 = .ok (.aload_n 0, 1) := by decide +kernel
theorem dX5_pass_26 : decode cX5_pass 26 = .ok (.invokevirtual 97, 3) := by decide +kernel
theorem dX5_pass_29 : decode cX5_pass 29 = .ok (.aload_n 0, 1) := by decide +kernel
theorem dX5_pass_30 : decode cX5_pass 30 = .ok (.invokevirtual 100, 3) := by decide +kernel
theorem dX5_pass_33 : decode cX5_pass 33 = .ok (.iinc 2 1, 3) := by decide +kernel
theorem dX5_pass_36 : decode cX5_pass 36 = .ok (.goto (-34), 3) := by decide +kernel
theorem dX5_pass_39 : decode cX5_pass 39 = .ok (.return_, 1) := by decide +kernel
theorem dX5_changeStates_0 : decode cX5_changeStates 0 = .ok (.iconst 0, 1) := by decide +kernel
theorem dX5_changeStates_1 : decode cX5_changeStates 1 = .ok (.istore_n 1, 1) := by decide +kernel
theorem dX5_changeStates_2 : decode cX5_changeStates 2 = .ok (.iload_n 1, 1) := by decide +kernel
theorem dX5_changeStates_3 : decode cX5_changeStates 3 = .ok (.aload_n 0, 1) := by decide +kernel
theorem dX5_changeStates_4 : decode cX5_changeStates 4 = .ok (.getfield 25, 3) := by decide +kernel
theorem dX5_changeStates_7 : decode cX5_changeStates 7 = .ok (.if_icmp .ge 111, 3) := by decide +kernel
theorem dX5_changeStates_10 : decode cX5_changeStates 10 = .ok (.aload_n 0, 1) := by decide +kernel
theorem dX5_changeStates_11 : decode cX5_changeStates 11 = .ok (.getfield 17, 3) := by decide +kernel
theorem dX5_changeStates_14 : decode cX5_changeStates 14 = .ok (.iload_n 1, 1) := by decide +kernel
theorem dX5_changeStates_15 : decode cX5_changeStates 15 = .ok (.aaload, 1) := by decide +kernel
theorem dX5_changeStates_16 : decode cX5_changeStates 16 = .ok (.astore_n 2, 1) := by decide +kernel
theorem dX5_changeStates_17 : decode cX5_changeStates 17 = .ok (.aload_n 2, 1) := by decide +kernel
theorem dX5_changeStates_18 : decode cX5_changeStates 18 = .ok (.getfield 70, 3) := by decide +kernel
theorem dX5_changeStates_21 : decode cX5_changeStates 21 = .ok (.tableswitch 91 0 2 #[27, 46, 71], 27) := by decide +kernel
theorem dX5_changeStates_48 : decode cX5_changeStates 48 = .ok (.aload_n 2, 1) := by decide +kernel
theorem dX5_changeStates_49 : decode cX5_changeStates 49 = .ok (.aload_n 0, 1) := by decide +kernel
theorem dX5_changeStates_50 : decode cX5_changeStates 50 = .ok (.getfield 38, 3) := by decide +kernel
theorem dX5_changeStates_53 : decode cX5_changeStates 53 = .ok (.invokevirtual 103, 3) := by decide +kernel
theorem dX5_changeStates_56 : decode cX5_changeStates 56 = .ok (.ifCond .eq 56, 3) := by decide +kernel
theorem dX5_changeStates_59 : decode cX5_changeStates 59 = .ok (.aload_n 0, 1) := by decide +kernel
theorem dX5_changeStates_60 : decode cX5_changeStates 60 = .ok (.aload_n 2, 1) := by decide +kernel
theorem dX5_changeStates_61 : decode cX5_changeStates 61 = .ok (.invokevirtual 107, 3) := by decide +kernel
theorem dX5_changeStates_64 : decode cX5_changeStates 64 = .ok (.goto 48, 3) := by decide +kernel
theorem dX5_changeStates_67 : decode cX5_changeStates 67 = .ok (.aload_n 2, 1) := by decide +kernel
theorem dX5_changeStates_68 : decode cX5_changeStates 68 = .ok (.dup, 1) := by decide +kernel
theorem dX5_changeStates_69 : decode cX5_changeStates 69 = .ok (.getfield 110, 3) := by decide +kernel
theorem dX5_changeStates_72 : decode cX5_changeStates 72 = .ok (.iconst 1, 1) := by decide +kernel
theorem dX5_changeStates_73 : decode cX5_changeStates 73 = .ok (.isub, 1) := by decide +kernel
theorem dX5_changeStates_74 : decode cX5_changeStates 74 = .ok (.putfield 110, 3) := by decide +kernel
theorem dX5_changeStates_77 : decode cX5_changeStates 77 = .ok (.aload_n 2, 1) := by decide +kernel
theorem dX5_changeStates_78 : decode cX5_changeStates 78 = .ok (.getfield 110, 3) := by decide +kernel
theorem dX5_changeStates_81 : decode cX5_changeStates 81 = .ok (.ifCond .ne 31, 3) := by decide +kernel
theorem dX5_changeStates_84 : decode cX5_changeStates 84 = .ok (.aload_n 0, 1) := by decide +kernel
theorem dX5_changeStates_85 : decode cX5_changeStates 85 = .ok (.aload_n 2, 1) := by decide +kernel
theorem dX5_changeStates_86 : decode cX5_changeStates 86 = .ok (.invokevirtual 113, 3) := by decide +kernel
theorem dX5_changeStates_89 : decode cX5_changeStates 89 = .ok (.goto 23, 3) := by decide +kernel
theorem dX5_changeStates_92 : decode cX5_changeStates 92 = .ok (.aload_n 2, 1) := by decide +kernel
theorem dX5_changeStates_93 : decode cX5_changeStates 93 = .ok (.getfield 61, 3) := by decide +kernel
theorem dX5_changeStates_96 : decode cX5_changeStates 96 = .ok (.aload_n 0, 1) := by decide +kernel
theorem dX5_changeStates_97 : decode cX5_changeStates 97 = .ok (.getfield 50, 3) := by decide +kernel
theorem dX5_changeStates_100 : decode cX5_changeStates 100 = .ok (.iand, 1) := by decide +kernel
theorem dX5_changeStates_101 : decode cX5_changeStates 101 = .ok (.ifCond .ne 11, 3) := by decide +kernel
theorem dX5_changeStates_104 : decode cX5_changeStates 104 = .ok (.aload_n 0, 1) := by decide +kernel
theorem dX5_changeStates_105 : decode cX5_changeStates 105 = .ok (.aload_n 2, 1) := by decide +kernel
theorem dX5_changeStates_106 : decode cX5_changeStates 106 = .ok (.invokevirtual 116, 3) := by decide +kernel
theorem dX5_changeStates_109 : decode cX5_changeStates 109 = .ok (.goto 3, 3) := by decide +kernel
theorem dX5_changeStates_112 : decode cX5_changeStates 112 = .ok (.iinc 1 1, 3) := by decide +kernel
theorem dX5_changeStates_115 : decode cX5_changeStates 115 = .ok (.goto (-113), 3) := by decide +kernel
theorem dX5_changeStates_118 : decode cX5_changeStates 118 = .ok (.return_, 1) := by decide +kernel
theorem dX5_wakeOrSkip_0 : decode cX5_wakeOrSkip 0 = .ok (.aload_n 1, 1) := by decide +kernel
theorem dX5_wakeOrSkip_1 : decode cX5_wakeOrSkip 1 = .ok (.getfield 119, 3) := by decide +kernel
theorem dX5_wakeOrSkip_4 : decode cX5_wakeOrSkip 4 = .ok (.ifCond .ne 33, 3) := by decide +kernel
theorem dX5_wakeOrSkip_7 : decode cX5_wakeOrSkip 7 = .ok (.aload_n 1, 1) := by decide +kernel
theorem dX5_wakeOrSkip_8 : decode cX5_wakeOrSkip 8 = .ok (.getfield 61, 3) := by decide +kernel
theorem dX5_wakeOrSkip_11 : decode cX5_wakeOrSkip 11 = .ok (.ifCond .eq 26, 3) := by decide +kernel
theorem dX5_wakeOrSkip_14 : decode cX5_wakeOrSkip 14 = .ok (.aload_n 1, 1) := by decide +kernel
theorem dX5_wakeOrSkip_15 : decode cX5_wakeOrSkip 15 = .ok (.getfield 61, 3) := by decide +kernel
theorem dX5_wakeOrSkip_18 : decode cX5_wakeOrSkip 18 = .ok (.aload_n 0, 1) := by decide +kernel
theorem dX5_wakeOrSkip_19 : decode cX5_wakeOrSkip 19 = .ok (.aload_n 1, 1) := by decide +kernel
theorem dX5_wakeOrSkip_20 : decode cX5_wakeOrSkip 20 = .ok (.invokevirtual 79, 3) := by decide +kernel
theorem dX5_wakeOrSkip_23 : decode cX5_wakeOrSkip 23 = .ok (.iconst (-1), 1) := by decide +kernel
theorem dX5_wakeOrSkip_24 : decode cX5_wakeOrSkip 24 = .ok (.ixor, 1) := by decide +kernel
theorem dX5_wakeOrSkip_25 : decode cX5_wakeOrSkip 25 = .ok (.iand, 1) := by decide +kernel
theorem dX5_wakeOrSkip_26 : decode cX5_wakeOrSkip 26 = .ok (.ifCond .ne 11, 3) := by decide +kernel
theorem dX5_wakeOrSkip_29 : decode cX5_wakeOrSkip 29 = .ok (.aload_n 1, 1) := by decide +kernel
theorem dX5_wakeOrSkip_30 : decode cX5_wakeOrSkip 30 = .ok (.iconst 1, 1) := by decide +kernel
theorem dX5_wakeOrSkip_31 : decode cX5_wakeOrSkip 31 = .ok (.putfield 119, 3) := by decide +kernel
theorem dX5_wakeOrSkip_34 : decode cX5_wakeOrSkip 34 = .ok (.goto 7, 3) := by decide +kernel
theorem dX5_wakeOrSkip_37 : decode cX5_wakeOrSkip 37 = .ok (.aload_n 1, 1) := by decide +kernel
theorem dX5_wakeOrSkip_38 : decode cX5_wakeOrSkip 38 = .ok (.invokevirtual 123, 3) := by decide +kernel
theorem dX5_wakeOrSkip_41 : decode cX5_wakeOrSkip 41 = .ok (.return_, 1) := by decide +kernel
theorem dX5_waitOn_0 : decode cX5_waitOn 0 = .ok (.aload_n 1, 1) := by decide +kernel
theorem dX5_waitOn_1 : decode cX5_waitOn 1 = .ok (.dup, 1) := by decide +kernel
theorem dX5_waitOn_2 : decode cX5_waitOn 2 = .ok (.getfield 110, 3) := by decide +kernel
theorem dX5_waitOn_5 : decode cX5_waitOn 5 = .ok (.iconst 1, 1) := by decide +kernel
theorem dX5_waitOn_6 : decode cX5_waitOn 6 = .ok (.isub, 1) := by decide +kernel
theorem dX5_waitOn_7 : decode cX5_waitOn 7 = .ok (.putfield 110, 3) := by decide +kernel
theorem dX5_waitOn_10 : decode cX5_waitOn 10 = .ok (.aload_n 1, 1) := by decide +kernel
theorem dX5_waitOn_11 : decode cX5_waitOn 11 = .ok (.getfield 110, 3) := by decide +kernel
theorem dX5_waitOn_14 : decode cX5_waitOn 14 = .ok (.ifCond .ne 7, 3) := by decide +kernel
theorem dX5_waitOn_17 : decode cX5_waitOn 17 = .ok (.aload_n 1, 1) := by decide +kernel
theorem dX5_waitOn_18 : decode cX5_waitOn 18 = .ok (.invokevirtual 126, 3) := by decide +kernel
theorem dX5_waitOn_21 : decode cX5_waitOn 21 = .ok (.return_, 1) := by decide +kernel
theorem dX5_waitByDraw_0 : decode cX5_waitByDraw 0 = .ok (.aload_n 1, 1) := by decide +kernel
theorem dX5_waitByDraw_1 : decode cX5_waitByDraw 1 = .ok (.invokevirtual 129, 3) := by decide +kernel
theorem dX5_waitByDraw_4 : decode cX5_waitByDraw 4 = .ok (.istore_n 2, 1) := by decide +kernel
theorem dX5_waitByDraw_5 : decode cX5_waitByDraw 5 = .ok (.aload_n 0, 1) := by decide +kernel
theorem dX5_waitByDraw_6 : decode cX5_waitByDraw 6 = .ok (.aload_n 0, 1) := by decide +kernel
theorem dX5_waitByDraw_7 : decode cX5_waitByDraw 7 = .ok (.getfield 29, 3) := by decide +kernel
theorem dX5_waitByDraw_10 : decode cX5_waitByDraw 10 = .ok (.ldc 133, 2) := by decide +kernel
theorem dX5_waitByDraw_12 : decode cX5_waitByDraw 12 = .ok (.imul, 1) := by decide +kernel
theorem dX5_waitByDraw_13 : decode cX5_waitByDraw 13 = .ok (.sipush 12345, 3) := by decide +kernel
theorem dX5_waitByDraw_16 : decode cX5_waitByDraw 16 = .ok (.iadd, 1) := by decide +kernel
theorem dX5_waitByDraw_17 : decode cX5_waitByDraw 17 = .ok (.putfield 29, 3) := by decide +kernel
theorem dX5_waitByDraw_20 : decode cX5_waitByDraw 20 = .ok (.aload_n 1, 1) := by decide +kernel
theorem dX5_waitByDraw_21 : decode cX5_waitByDraw 21 = .ok (.iconst 2, 1) := by decide +kernel
theorem dX5_waitByDraw_22 : decode cX5_waitByDraw 22 = .ok (.putfield 70, 3) := by decide +kernel
theorem dX5_waitByDraw_25 : decode cX5_waitByDraw 25 = .ok (.aload_n 1, 1) := by decide +kernel
theorem dX5_waitByDraw_26 : decode cX5_waitByDraw 26 = .ok (.iload_n 2, 1) := by decide +kernel
theorem dX5_waitByDraw_27 : decode cX5_waitByDraw 27 = .ok (.iconst 1, 1) := by decide +kernel
theorem dX5_waitByDraw_28 : decode cX5_waitByDraw 28 = .ok (.if_icmp .ge 7, 3) := by decide +kernel
theorem dX5_waitByDraw_31 : decode cX5_waitByDraw 31 = .ok (.iconst 1, 1) := by decide +kernel
theorem dX5_waitByDraw_32 : decode cX5_waitByDraw 32 = .ok (.goto 14, 3) := by decide +kernel
theorem dX5_waitByDraw_35 : decode cX5_waitByDraw 35 = .ok (.iconst 1, 1) := by decide +kernel
theorem dX5_waitByDraw_36 : decode cX5_waitByDraw 36 = .ok (.aload_n 0, 1) := by decide +kernel
theorem dX5_waitByDraw_37 : decode cX5_waitByDraw 37 = .ok (.getfield 29, 3) := by decide +kernel
theorem dX5_waitByDraw_40 : decode cX5_waitByDraw 40 = .ok (.bipush 16, 2) := by decide +kernel
theorem dX5_waitByDraw_42 : decode cX5_waitByDraw 42 = .ok (.iushr, 1) := by decide +kernel
theorem dX5_waitByDraw_43 : decode cX5_waitByDraw 43 = .ok (.iload_n 2, 1) := by decide +kernel
theorem dX5_waitByDraw_44 : decode cX5_waitByDraw 44 = .ok (.irem, 1) := by decide +kernel
theorem dX5_waitByDraw_45 : decode cX5_waitByDraw 45 = .ok (.iadd, 1) := by decide +kernel
theorem dX5_waitByDraw_46 : decode cX5_waitByDraw 46 = .ok (.putfield 110, 3) := by decide +kernel
theorem dX5_waitByDraw_49 : decode cX5_waitByDraw 49 = .ok (.return_, 1) := by decide +kernel
theorem dX5_payForStates_0 : decode cX5_payForStates 0 = .ok (.iconst 0, 1) := by decide +kernel
theorem dX5_payForStates_1 : decode cX5_payForStates 1 = .ok (.istore_n 1, 1) := by decide +kernel
theorem dX5_payForStates_2 : decode cX5_payForStates 2 = .ok (.iload_n 1, 1) := by decide +kernel
theorem dX5_payForStates_3 : decode cX5_payForStates 3 = .ok (.aload_n 0, 1) := by decide +kernel
theorem dX5_payForStates_4 : decode cX5_payForStates 4 = .ok (.getfield 25, 3) := by decide +kernel
theorem dX5_payForStates_7 : decode cX5_payForStates 7 = .ok (.if_icmp .ge 50, 3) := by decide +kernel
theorem dX5_payForStates_10 : decode cX5_payForStates 10 = .ok (.aload_n 0, 1) := by decide +kernel
theorem dX5_payForStates_11 : decode cX5_payForStates 11 = .ok (.getfield 17, 3) := by decide +kernel
theorem dX5_payForStates_14 : decode cX5_payForStates 14 = .ok (.iload_n 1, 1) := by decide +kernel
theorem dX5_payForStates_15 : decode cX5_payForStates 15 = .ok (.aaload, 1) := by decide +kernel
theorem dX5_payForStates_16 : decode cX5_payForStates 16 = .ok (.astore_n 2, 1) := by decide +kernel
theorem dX5_payForStates_17 : decode cX5_payForStates 17 = .ok (.aload_n 2, 1) := by decide +kernel
theorem dX5_payForStates_18 : decode cX5_payForStates 18 = .ok (.getfield 70, 3) := by decide +kernel
theorem dX5_payForStates_21 : decode cX5_payForStates 21 = .ok (.iconst 4, 1) := by decide +kernel
theorem dX5_payForStates_22 : decode cX5_payForStates 22 = .ok (.if_icmp .eq 29, 3) := by decide +kernel
theorem dX5_payForStates_25 : decode cX5_payForStates 25 = .ok (.aload_n 2, 1) := by decide +kernel
theorem dX5_payForStates_26 : decode cX5_payForStates 26 = .ok (.getfield 134, 3) := by decide +kernel
theorem dX5_payForStates_29 : decode cX5_payForStates 29 = .ok (.aload_n 2, 1) := by decide +kernel
theorem dX5_payForStates_30 : decode cX5_payForStates 30 = .ok (.getfield 70, 3) := by decide +kernel
theorem dX5_payForStates_33 : decode cX5_payForStates 33 = .ok (.dup2, 1) := by decide +kernel
theorem dX5_payForStates_34 : decode cX5_payForStates 34 = .ok (.iaload, 1) := by decide +kernel
theorem dX5_payForStates_35 : decode cX5_payForStates 35 = .ok (.iconst 1, 1) := by decide +kernel
theorem dX5_payForStates_36 : decode cX5_payForStates 36 = .ok (.iadd, 1) := by decide +kernel
theorem dX5_payForStates_37 : decode cX5_payForStates 37 = .ok (.iastore, 1) := by decide +kernel
theorem dX5_payForStates_38 : decode cX5_payForStates 38 = .ok (.aload_n 2, 1) := by decide +kernel
theorem dX5_payForStates_39 : decode cX5_payForStates 39 = .ok (.aload_n 0, 1) := by decide +kernel
theorem dX5_payForStates_40 : decode cX5_payForStates 40 = .ok (.getfield 9, 3) := by decide +kernel
theorem dX5_payForStates_43 : decode cX5_payForStates 43 = .ok (.aload_n 2, 1) := by decide +kernel
theorem dX5_payForStates_44 : decode cX5_payForStates 44 = .ok (.getfield 70, 3) := by decide +kernel
theorem dX5_payForStates_47 : decode cX5_payForStates 47 = .ok (.iaload, 1) := by decide +kernel
theorem dX5_payForStates_48 : decode cX5_payForStates 48 = .ok (.invokevirtual 137, 3) := by decide +kernel
theorem dX5_payForStates_51 : decode cX5_payForStates 51 = .ok (.iinc 1 1, 3) := by decide +kernel
theorem dX5_payForStates_54 : decode cX5_payForStates 54 = .ok (.goto (-52), 3) := by decide +kernel
theorem dX5_payForStates_57 : decode cX5_payForStates 57 = .ok (.return_, 1) := by decide +kernel
theorem dX5_listenToSenders_0 : decode cX5_listenToSenders 0 = .ok (.aload_n 0, 1) := by decide +kernel
theorem dX5_listenToSenders_1 : decode cX5_listenToSenders 1 = .ok (.aload_n 0, 1) := by decide +kernel
theorem dX5_listenToSenders_2 : decode cX5_listenToSenders 2 = .ok (.iconst 3, 1) := by decide +kernel
theorem dX5_listenToSenders_3 : decode cX5_listenToSenders 3 = .ok (.invokevirtual 73, 3) := by decide +kernel
theorem dX5_listenToSenders_6 : decode cX5_listenToSenders 6 = .ok (.putfield 50, 3) := by decide +kernel
theorem dX5_listenToSenders_9 : decode cX5_listenToSenders 9 = .ok (.aload_n 0, 1) := by decide +kernel
theorem dX5_listenToSenders_10 : decode cX5_listenToSenders 10 = .ok (.getfield 50, 3) := by decide +kernel
theorem dX5_listenToSenders_13 : decode cX5_listenToSenders 13 = .ok (.ifCond .ne 4, 3) := by decide +kernel
theorem dX5_listenToSenders_16 : decode cX5_listenToSenders 16 = .ok (.return_, 1) := by decide +kernel
theorem dX5_listenToSenders_17 : decode cX5_listenToSenders 17 = .ok (.iconst 0, 1) := by decide +kernel
theorem dX5_listenToSenders_18 : decode cX5_listenToSenders 18 = .ok (.istore_n 1, 1) := by decide +kernel
theorem dX5_listenToSenders_19 : decode cX5_listenToSenders 19 = .ok (.iload_n 1, 1) := by decide +kernel
theorem dX5_listenToSenders_20 : decode cX5_listenToSenders 20 = .ok (.aload_n 0, 1) := by decide +kernel
theorem dX5_listenToSenders_21 : decode cX5_listenToSenders 21 = .ok (.getfield 25, 3) := by decide +kernel
theorem dX5_listenToSenders_24 : decode cX5_listenToSenders 24 = .ok (.if_icmp .ge 124, 3) := by decide +kernel
theorem dX5_listenToSenders_27 : decode cX5_listenToSenders 27 = .ok (.aload_n 0, 1) := by decide +kernel
theorem dX5_listenToSenders_28 : decode cX5_listenToSenders 28 = .ok (.getfield 17, 3) := by decide +kernel
theorem dX5_listenToSenders_31 : decode cX5_listenToSenders 31 = .ok (.iload_n 1, 1) := by decide +kernel
theorem dX5_listenToSenders_32 : decode cX5_listenToSenders 32 = .ok (.aaload, 1) := by decide +kernel
theorem dX5_listenToSenders_33 : decode cX5_listenToSenders 33 = .ok (.astore_n 2, 1) := by decide +kernel
theorem dX5_listenToSenders_34 : decode cX5_listenToSenders 34 = .ok (.aload_n 2, 1) := by decide +kernel
theorem dX5_listenToSenders_35 : decode cX5_listenToSenders 35 = .ok (.getfield 61, 3) := by decide +kernel
theorem dX5_listenToSenders_38 : decode cX5_listenToSenders 38 = .ok (.aload_n 0, 1) := by decide +kernel
theorem dX5_listenToSenders_39 : decode cX5_listenToSenders 39 = .ok (.getfield 50, 3) := by decide +kernel
theorem dX5_listenToSenders_42 : decode cX5_listenToSenders 42 = .ok (.iand, 1) := by decide +kernel
theorem dX5_listenToSenders_43 : decode cX5_listenToSenders 43 = .ok (.invokestatic 64, 3) := by decide +kernel
theorem dX5_listenToSenders_46 : decode cX5_listenToSenders 46 = .ok (.iconst 1, 1) := by decide +kernel
theorem dX5_listenToSenders_47 : decode cX5_listenToSenders 47 = .ok (.if_icmp .le 7, 3) := by decide +kernel
theorem dX5_listenToSenders_50 : decode cX5_listenToSenders 50 = .ok (.iconst 1, 1) := by decide +kernel
theorem dX5_listenToSenders_51 : decode cX5_listenToSenders 51 = .ok (.goto 4, 3) := by decide +kernel
theorem dX5_listenToSenders_54 : decode cX5_listenToSenders 54 = .ok (.iconst 0, 1) := by decide +kernel
theorem dX5_listenToSenders_55 : decode cX5_listenToSenders 55 = .ok (.istore_n 3, 1) := by decide +kernel
theorem dX5_listenToSenders_56 : decode cX5_listenToSenders 56 = .ok (.iload_n 3, 1) := by decide +kernel
theorem dX5_listenToSenders_57 : decode cX5_listenToSenders 57 = .ok (.ifCond .eq 20, 3) := by decide +kernel
theorem dX5_listenToSenders_60 : decode cX5_listenToSenders 60 = .ok (.aload_n 2, 1) := by decide +kernel
theorem dX5_listenToSenders_61 : decode cX5_listenToSenders 61 = .ok (.invokevirtual 141, 3) := by decide +kernel
theorem dX5_listenToSenders_64 : decode cX5_listenToSenders 64 = .ok (.ifCond .eq 13, 3) := by decide +kernel
theorem dX5_listenToSenders_67 : decode cX5_listenToSenders 67 = .ok (.aload_n 0, 1) := by decide +kernel
theorem dX5_listenToSenders_68 : decode cX5_listenToSenders 68 = .ok (.dup, 1) := by decide +kernel
theorem dX5_listenToSenders_69 : decode cX5_listenToSenders 69 = .ok (.getfield 47, 3) := by decide +kernel
theorem dX5_listenToSenders_72 : decode cX5_listenToSenders 72 = .ok (.iconst 1, 1) := by decide +kernel
theorem dX5_listenToSenders_73 : decode cX5_listenToSenders 73 = .ok (.iadd, 1) := by decide +kernel
theorem dX5_listenToSenders_74 : decode cX5_listenToSenders 74 = .ok (.putfield 47, 3) := by decide +kernel
theorem dX5_listenToSenders_77 : decode cX5_listenToSenders 77 = .ok (.iconst 0, 1) := by decide +kernel
theorem dX5_listenToSenders_78 : decode cX5_listenToSenders 78 = .ok (.istore 4, 2) := by decide +kernel
theorem dX5_listenToSenders_80 : decode cX5_listenToSenders 80 = .ok (.iload 4, 2) := by decide +kernel
theorem dX5_listenToSenders_82 : decode cX5_listenToSenders 82 = .ok (.aload_n 0, 1) := by decide +kernel
theorem dX5_listenToSenders_83 : decode cX5_listenToSenders 83 = .ok (.getfield 25, 3) := by decide +kernel
theorem dX5_listenToSenders_86 : decode cX5_listenToSenders 86 = .ok (.if_icmp .ge 56, 3) := by decide +kernel
theorem dX5_listenToSenders_89 : decode cX5_listenToSenders 89 = .ok (.aload_n 0, 1) := by decide +kernel
theorem dX5_listenToSenders_90 : decode cX5_listenToSenders 90 = .ok (.getfield 50, 3) := by decide +kernel
theorem dX5_listenToSenders_93 : decode cX5_listenToSenders 93 = .ok (.iload 4, 2) := by decide +kernel
theorem dX5_listenToSenders_95 : decode cX5_listenToSenders 95 = .ok (.invokestatic 83, 3) := by decide +kernel
theorem dX5_listenToSenders_98 : decode cX5_listenToSenders 98 = .ok (.ifCond .eq 38, 3) := by decide +kernel
theorem dX5_listenToSenders_101 : decode cX5_listenToSenders 101 = .ok (.aload_n 0, 1) := by decide +kernel
theorem dX5_listenToSenders_102 : decode cX5_listenToSenders 102 = .ok (.getfield 17, 3) := by decide +kernel
theorem dX5_listenToSenders_105 : decode cX5_listenToSenders 105 = .ok (.iload 4, 2) := by decide +kernel
theorem dX5_listenToSenders_107 : decode cX5_listenToSenders 107 = .ok (.aaload, 1) := by decide +kernel
theorem dX5_listenToSenders_108 : decode cX5_listenToSenders 108 = .ok (.getfield 145, 3) := by decide +kernel
theorem dX5_listenToSenders_111 : decode cX5_listenToSenders 111 = .ok (.iload_n 1, 1) := by decide +kernel
theorem dX5_listenToSenders_112 : decode cX5_listenToSenders 112 = .ok (.iaload, 1) := by decide +kernel
theorem dX5_listenToSenders_113 : decode cX5_listenToSenders 113 = .ok (.ifCond .ne 23, 3) := by decide +kernel
theorem dX5_listenToSenders_116 : decode cX5_listenToSenders 116 = .ok (.aload_n 0, 1) := by decide +kernel
theorem dX5_listenToSenders_117 : decode cX5_listenToSenders 117 = .ok (.getfield 17, 3) := by decide +kernel
theorem dX5_listenToSenders_120 : decode cX5_listenToSenders 120 = .ok (.iload 4, 2) := by decide +kernel
theorem dX5_listenToSenders_122 : decode cX5_listenToSenders 122 = .ok (.aaload, 1) := by decide +kernel
theorem dX5_listenToSenders_123 : decode cX5_listenToSenders 123 = .ok (.getfield 145, 3) := by decide +kernel
theorem dX5_listenToSenders_126 : decode cX5_listenToSenders 126 = .ok (.iload_n 1, 1) := by decide +kernel
theorem dX5_listenToSenders_127 : decode cX5_listenToSenders 127 = .ok (.aload_n 0, 1) := by decide +kernel
theorem dX5_listenToSenders_128 : decode cX5_listenToSenders 128 = .ok (.aload_n 2, 1) := by decide +kernel
theorem dX5_listenToSenders_129 : decode cX5_listenToSenders 129 = .ok (.iload 4, 2) := by decide +kernel
theorem dX5_listenToSenders_131 : decode cX5_listenToSenders 131 = .ok (.iload_n 3, 1) := by decide +kernel
theorem dX5_listenToSenders_132 : decode cX5_listenToSenders 132 = .ok (.invokevirtual 148, 3) := by decide +kernel
theorem dX5_listenToSenders_135 : decode cX5_listenToSenders 135 = .ok (.iastore, 1) := by decide +kernel
theorem dX5_listenToSenders_136 : decode cX5_listenToSenders 136 = .ok (.iinc 4 1, 3) := by decide +kernel
theorem dX5_listenToSenders_139 : decode cX5_listenToSenders 139 = .ok (.goto (-59), 3) := by decide +kernel
theorem dX5_listenToSenders_142 : decode cX5_listenToSenders 142 = .ok (.iinc 1 1, 3) := by decide +kernel
theorem dX5_listenToSenders_145 : decode cX5_listenToSenders 145 = .ok (.goto (-126), 3) := by decide +kernel
theorem dX5_listenToSenders_148 : decode cX5_listenToSenders 148 = .ok (.return_, 1) := by decide +kernel
theorem dX5_reasonAgainst_0 : decode cX5_reasonAgainst 0 = .ok (.aload_n 1, 1) := by decide +kernel
theorem dX5_reasonAgainst_1 : decode cX5_reasonAgainst 1 = .ok (.getfield 61, 3) := by decide +kernel
theorem dX5_reasonAgainst_4 : decode cX5_reasonAgainst 4 = .ok (.iload_n 2, 1) := by decide +kernel
theorem dX5_reasonAgainst_5 : decode cX5_reasonAgainst 5 = .ok (.invokestatic 83, 3) := by decide +kernel
theorem dX5_reasonAgainst_8 : decode cX5_reasonAgainst 8 = .ok (.ifCond .ne 5, 3) := by decide +kernel
theorem dX5_reasonAgainst_11 : decode cX5_reasonAgainst 11 = .ok (.iconst 1, 1) := by decide +kernel
theorem dX5_reasonAgainst_12 : decode cX5_reasonAgainst 12 = .ok (.ireturn, 1) := by decide +kernel
theorem dX5_reasonAgainst_13 : decode cX5_reasonAgainst 13 = .ok (.aload_n 1, 1) := by decide +kernel
theorem dX5_reasonAgainst_14 : decode cX5_reasonAgainst 14 = .ok (.getfield 70, 3) := by decide +kernel
theorem dX5_reasonAgainst_17 : decode cX5_reasonAgainst 17 = .ok (.iconst 3, 1) := by decide +kernel
theorem dX5_reasonAgainst_18 : decode cX5_reasonAgainst 18 = .ok (.if_icmp .ne 5, 3) := by decide +kernel
theorem dX5_reasonAgainst_21 : decode cX5_reasonAgainst 21 = .ok (.iconst 3, 1) := by decide +kernel
theorem dX5_reasonAgainst_22 : decode cX5_reasonAgainst 22 = .ok (.ireturn, 1) := by decide +kernel
theorem dX5_reasonAgainst_23 : decode cX5_reasonAgainst 23 = .ok (.aload_n 1, 1) := by decide +kernel
theorem dX5_reasonAgainst_24 : decode cX5_reasonAgainst 24 = .ok (.invokevirtual 141, 3) := by decide +kernel
theorem dX5_reasonAgainst_27 : decode cX5_reasonAgainst 27 = .ok (.ifCond .ne 5, 3) := by decide +kernel
theorem dX5_reasonAgainst_30 : decode cX5_reasonAgainst 30 = .ok (.iconst 2, 1) := by decide +kernel
theorem dX5_reasonAgainst_31 : decode cX5_reasonAgainst 31 = .ok (.ireturn, 1) := by decide +kernel
theorem dX5_reasonAgainst_32 : decode cX5_reasonAgainst 32 = .ok (.iload_n 3, 1) := by decide +kernel
theorem dX5_reasonAgainst_33 : decode cX5_reasonAgainst 33 = .ok (.ifCond .eq 7, 3) := by decide +kernel
theorem dX5_reasonAgainst_36 : decode cX5_reasonAgainst 36 = .ok (.iconst 4, 1) := by decide +kernel
theorem dX5_reasonAgainst_37 : decode cX5_reasonAgainst 37 = .ok (.goto 4, 3) := by decide +kernel
theorem dX5_reasonAgainst_40 : decode cX5_reasonAgainst 40 = .ok (.iconst 0, 1) := by decide +kernel
theorem dX5_reasonAgainst_41 : decode cX5_reasonAgainst 41 = .ok (.ireturn, 1) := by decide +kernel
theorem dX5_endSendings_0 : decode cX5_endSendings 0 = .ok (.iconst 0, 1) := by decide +kernel
theorem dX5_endSendings_1 : decode cX5_endSendings 1 = .ok (.istore_n 1, 1) := by decide +kernel
theorem dX5_endSendings_2 : decode cX5_endSendings 2 = .ok (.iload_n 1, 1) := by decide +kernel
theorem dX5_endSendings_3 : decode cX5_endSendings 3 = .ok (.aload_n 0, 1) := by decide +kernel
theorem dX5_endSendings_4 : decode cX5_endSendings 4 = .ok (.getfield 25, 3) := by decide +kernel
theorem dX5_endSendings_7 : decode cX5_endSendings 7 = .ok (.if_icmp .ge 55, 3) := by decide +kernel
theorem dX5_endSendings_10 : decode cX5_endSendings 10 = .ok (.aload_n 0, 1) := by decide +kernel
theorem dX5_endSendings_11 : decode cX5_endSendings 11 = .ok (.getfield 17, 3) := by decide +kernel
theorem dX5_endSendings_14 : decode cX5_endSendings 14 = .ok (.iload_n 1, 1) := by decide +kernel
theorem dX5_endSendings_15 : decode cX5_endSendings 15 = .ok (.aaload, 1) := by decide +kernel
theorem dX5_endSendings_16 : decode cX5_endSendings 16 = .ok (.astore_n 2, 1) := by decide +kernel
theorem dX5_endSendings_17 : decode cX5_endSendings 17 = .ok (.aload_n 2, 1) := by decide +kernel
theorem dX5_endSendings_18 : decode cX5_endSendings 18 = .ok (.getfield 70, 3) := by decide +kernel
theorem dX5_endSendings_21 : decode cX5_endSendings 21 = .ok (.iconst 3, 1) := by decide +kernel
theorem dX5_endSendings_22 : decode cX5_endSendings 22 = .ok (.if_icmp .ne 34, 3) := by decide +kernel
theorem dX5_endSendings_25 : decode cX5_endSendings 25 = .ok (.aload_n 2, 1) := by decide +kernel
theorem dX5_endSendings_26 : decode cX5_endSendings 26 = .ok (.dup, 1) := by decide +kernel
theorem dX5_endSendings_27 : decode cX5_endSendings 27 = .ok (.getfield 110, 3) := by decide +kernel
theorem dX5_endSendings_30 : decode cX5_endSendings 30 = .ok (.iconst 1, 1) := by decide +kernel
theorem dX5_endSendings_31 : decode cX5_endSendings 31 = .ok (.isub, 1) := by decide +kernel
theorem dX5_endSendings_32 : decode cX5_endSendings 32 = .ok (.putfield 110, 3) := by decide +kernel
theorem dX5_endSendings_35 : decode cX5_endSendings 35 = .ok (.aload_n 2, 1) := by decide +kernel
theorem dX5_endSendings_36 : decode cX5_endSendings 36 = .ok (.getfield 110, 3) := by decide +kernel
theorem dX5_endSendings_39 : decode cX5_endSendings 39 = .ok (.ifCond .ne 17, 3) := by decide +kernel
theorem dX5_endSendings_42 : decode cX5_endSendings 42 = .ok (.aload_n 0, 1) := by decide +kernel
theorem dX5_endSendings_43 : decode cX5_endSendings 43 = .ok (.aload_n 2, 1) := by decide +kernel
theorem dX5_endSendings_44 : decode cX5_endSendings 44 = .ok (.iload_n 1, 1) := by decide +kernel
theorem dX5_endSendings_45 : decode cX5_endSendings 45 = .ok (.invokevirtual 152, 3) := by decide +kernel
theorem dX5_endSendings_48 : decode cX5_endSendings 48 = .ok (.ifCond .ne 8, 3) := by decide +kernel
theorem dX5_endSendings_51 : decode cX5_endSendings 51 = .ok (.aload_n 0, 1) := by decide +kernel
theorem dX5_endSendings_52 : decode cX5_endSendings 52 = .ok (.aload_n 2, 1) := by decide +kernel
theorem dX5_endSendings_53 : decode cX5_endSendings 53 = .ok (.invokevirtual 113, 3) := by decide +kernel
theorem dX5_endSendings_56 : decode cX5_endSendings 56 = .ok (.iinc 1 1, 3) := by decide +kernel
theorem dX5_endSendings_59 : decode cX5_endSendings 59 = .ok (.goto (-57), 3) := by decide +kernel
theorem dX5_endSendings_62 : decode cX5_endSendings 62 = .ok (.return_, 1) := by decide +kernel
theorem dX5_endSending_0 : decode cX5_endSending 0 = .ok (.aload_n 0, 1) := by decide +kernel
theorem dX5_endSending_1 : decode cX5_endSending 1 = .ok (.aload_n 1, 1) := by decide +kernel
theorem dX5_endSending_2 : decode cX5_endSending 2 = .ok (.iload_n 2, 1) := by decide +kernel
theorem dX5_endSending_3 : decode cX5_endSending 3 = .ok (.invokevirtual 156, 3) := by decide +kernel
theorem dX5_endSending_6 : decode cX5_endSending 6 = .ok (.ifCond .eq 29, 3) := by decide +kernel
theorem dX5_endSending_9 : decode cX5_endSending 9 = .ok (.aload_n 1, 1) := by decide +kernel
theorem dX5_endSending_10 : decode cX5_endSending 10 = .ok (.dup, 1) := by decide +kernel
theorem dX5_endSending_11 : decode cX5_endSending 11 = .ok (.getfield 159, 3) := by decide +kernel
theorem dX5_endSending_14 : decode cX5_endSending 14 = .ok (.iconst 1, 1) := by decide +kernel
theorem dX5_endSending_15 : decode cX5_endSending 15 = .ok (.iadd, 1) := by decide +kernel
theorem dX5_endSending_16 : decode cX5_endSending 16 = .ok (.putfield 159, 3) := by decide +kernel
theorem dX5_endSending_19 : decode cX5_endSending 19 = .ok (.aload_n 0, 1) := by decide +kernel
theorem dX5_endSending_20 : decode cX5_endSending 20 = .ok (.dup, 1) := by decide +kernel
theorem dX5_endSending_21 : decode cX5_endSending 21 = .ok (.getfield 41, 3) := by decide +kernel
theorem dX5_endSending_24 : decode cX5_endSending 24 = .ok (.iconst 1, 1) := by decide +kernel
theorem dX5_endSending_25 : decode cX5_endSending 25 = .ok (.iadd, 1) := by decide +kernel
theorem dX5_endSending_26 : decode cX5_endSending 26 = .ok (.putfield 41, 3) := by decide +kernel
theorem dX5_endSending_29 : decode cX5_endSending 29 = .ok (.aload_n 1, 1) := by decide +kernel
theorem dX5_endSending_30 : decode cX5_endSending 30 = .ok (.invokevirtual 160, 3) := by decide +kernel
theorem dX5_endSending_33 : decode cX5_endSending 33 = .ok (.iconst 1, 1) := by decide +kernel
theorem dX5_endSending_34 : decode cX5_endSending 34 = .ok (.ireturn, 1) := by decide +kernel
theorem dX5_endSending_35 : decode cX5_endSending 35 = .ok (.aload_n 1, 1) := by decide +kernel
theorem dX5_endSending_36 : decode cX5_endSending 36 = .ok (.dup, 1) := by decide +kernel
theorem dX5_endSending_37 : decode cX5_endSending 37 = .ok (.getfield 163, 3) := by decide +kernel
theorem dX5_endSending_40 : decode cX5_endSending 40 = .ok (.iconst 1, 1) := by decide +kernel
theorem dX5_endSending_41 : decode cX5_endSending 41 = .ok (.iadd, 1) := by decide +kernel
theorem dX5_endSending_42 : decode cX5_endSending 42 = .ok (.putfield 163, 3) := by decide +kernel
theorem dX5_endSending_45 : decode cX5_endSending 45 = .ok (.aload_n 1, 1) := by decide +kernel
theorem dX5_endSending_46 : decode cX5_endSending 46 = .ok (.getfield 163, 3) := by decide +kernel
theorem dX5_endSending_49 : decode cX5_endSending 49 = .ok (.aload_n 0, 1) := by decide +kernel
theorem dX5_endSending_50 : decode cX5_endSending 50 = .ok (.getfield 32, 3) := by decide +kernel
theorem dX5_endSending_53 : decode cX5_endSending 53 = .ok (.if_icmp .lt 29, 3) := by decide +kernel
theorem dX5_endSending_56 : decode cX5_endSending 56 = .ok (.aload_n 1, 1) := by decide +kernel
theorem dX5_endSending_57 : decode cX5_endSending 57 = .ok (.dup, 1) := by decide +kernel
theorem dX5_endSending_58 : decode cX5_endSending 58 = .ok (.getfield 166, 3) := by decide +kernel
theorem dX5_endSending_61 : decode cX5_endSending 61 = .ok (.iconst 1, 1) := by decide +kernel
theorem dX5_endSending_62 : decode cX5_endSending 62 = .ok (.iadd, 1) := by decide +kernel
theorem dX5_endSending_63 : decode cX5_endSending 63 = .ok (.putfield 166, 3) := by decide +kernel
theorem dX5_endSending_66 : decode cX5_endSending 66 = .ok (.aload_n 0, 1) := by decide +kernel
theorem dX5_endSending_67 : decode cX5_endSending 67 = .ok (.dup, 1) := by decide +kernel
theorem dX5_endSending_68 : decode cX5_endSending 68 = .ok (.getfield 44, 3) := by decide +kernel
theorem dX5_endSending_71 : decode cX5_endSending 71 = .ok (.iconst 1, 1) := by decide +kernel
theorem dX5_endSending_72 : decode cX5_endSending 72 = .ok (.iadd, 1) := by decide +kernel
theorem dX5_endSending_73 : decode cX5_endSending 73 = .ok (.putfield 44, 3) := by decide +kernel
theorem dX5_endSending_76 : decode cX5_endSending 76 = .ok (.aload_n 1, 1) := by decide +kernel
theorem dX5_endSending_77 : decode cX5_endSending 77 = .ok (.invokevirtual 160, 3) := by decide +kernel
theorem dX5_endSending_80 : decode cX5_endSending 80 = .ok (.iconst 1, 1) := by decide +kernel
theorem dX5_endSending_81 : decode cX5_endSending 81 = .ok (.ireturn, 1) := by decide +kernel
theorem dX5_endSending_82 : decode cX5_endSending 82 = .ok (.iconst 0, 1) := by decide +kernel
theorem dX5_endSending_83 : decode cX5_endSending 83 = .ok (.ireturn, 1) := by decide +kernel
theorem dX5_tellEars_0 : decode cX5_tellEars 0 = .ok (.iconst 0, 1) := by decide +kernel
theorem dX5_tellEars_1 : decode cX5_tellEars 1 = .ok (.istore_n 3, 1) := by decide +kernel
theorem dX5_tellEars_2 : decode cX5_tellEars 2 = .ok (.iconst 0, 1) := by decide +kernel
theorem dX5_tellEars_3 : decode cX5_tellEars 3 = .ok (.istore 4, 2) := by decide +kernel
theorem dX5_tellEars_5 : decode cX5_tellEars 5 = .ok (.iload 4, 2) := by decide +kernel
theorem dX5_tellEars_7 : decode cX5_tellEars 7 = .ok (.aload_n 0, 1) := by decide +kernel
theorem dX5_tellEars_8 : decode cX5_tellEars 8 = .ok (.getfield 25, 3) := by decide +kernel
theorem dX5_tellEars_11 : decode cX5_tellEars 11 = .ok (.if_icmp .ge 51, 3) := by decide +kernel
theorem dX5_tellEars_14 : decode cX5_tellEars 14 = .ok (.aload_n 1, 1) := by decide +kernel
theorem dX5_tellEars_15 : decode cX5_tellEars 15 = .ok (.getfield 167, 3) := by decide +kernel
theorem dX5_tellEars_18 : decode cX5_tellEars 18 = .ok (.iload 4, 2) := by decide +kernel
theorem dX5_tellEars_20 : decode cX5_tellEars 20 = .ok (.aload_n 1, 1) := by decide +kernel
theorem dX5_tellEars_21 : decode cX5_tellEars 21 = .ok (.getfield 145, 3) := by decide +kernel
theorem dX5_tellEars_24 : decode cX5_tellEars 24 = .ok (.iload 4, 2) := by decide +kernel
theorem dX5_tellEars_26 : decode cX5_tellEars 26 = .ok (.iaload, 1) := by decide +kernel
theorem dX5_tellEars_27 : decode cX5_tellEars 27 = .ok (.iastore, 1) := by decide +kernel
theorem dX5_tellEars_28 : decode cX5_tellEars 28 = .ok (.aload_n 1, 1) := by decide +kernel
theorem dX5_tellEars_29 : decode cX5_tellEars 29 = .ok (.getfield 145, 3) := by decide +kernel
theorem dX5_tellEars_32 : decode cX5_tellEars 32 = .ok (.iload 4, 2) := by decide +kernel
theorem dX5_tellEars_34 : decode cX5_tellEars 34 = .ok (.iaload, 1) := by decide +kernel
theorem dX5_tellEars_35 : decode cX5_tellEars 35 = .ok (.ifCond .ne 21, 3) := by decide +kernel
theorem dX5_tellEars_38 : decode cX5_tellEars 38 = .ok (.aload_n 0, 1) := by decide +kernel
theorem dX5_tellEars_39 : decode cX5_tellEars 39 = .ok (.getfield 17, 3) := by decide +kernel
theorem dX5_tellEars_42 : decode cX5_tellEars 42 = .ok (.iload 4, 2) := by decide +kernel
theorem dX5_tellEars_44 : decode cX5_tellEars 44 = .ok (.aaload, 1) := by decide +kernel
theorem dX5_tellEars_45 : decode cX5_tellEars 45 = .ok (.getfield 76, 3) := by decide +kernel
theorem dX5_tellEars_48 : decode cX5_tellEars 48 = .ok (.iload_n 2, 1) := by decide +kernel
theorem dX5_tellEars_49 : decode cX5_tellEars 49 = .ok (.aload_n 0, 1) := by decide +kernel
theorem dX5_tellEars_50 : decode cX5_tellEars 50 = .ok (.getfield 38, 3) := by decide +kernel
theorem dX5_tellEars_53 : decode cX5_tellEars 53 = .ok (.iastore, 1) := by decide +kernel
theorem dX5_tellEars_54 : decode cX5_tellEars 54 = .ok (.iconst 1, 1) := by decide +kernel
theorem dX5_tellEars_55 : decode cX5_tellEars 55 = .ok (.istore_n 3, 1) := by decide +kernel
theorem dX5_tellEars_56 : decode cX5_tellEars 56 = .ok (.iinc 4 1, 3) := by decide +kernel
theorem dX5_tellEars_59 : decode cX5_tellEars 59 = .ok (.goto (-54), 3) := by decide +kernel
theorem dX5_tellEars_62 : decode cX5_tellEars 62 = .ok (.iload_n 3, 1) := by decide +kernel
theorem dX5_tellEars_63 : decode cX5_tellEars 63 = .ok (.ireturn, 1) := by decide +kernel
theorem dX6_init_0 : decode cX6_init 0 = .ok (.aload_n 0, 1) := by decide +kernel
theorem dX6_init_1 : decode cX6_init 1 = .ok (.invokespecial 1, 3) := by decide +kernel
theorem dX6_init_4 : decode cX6_init 4 = .ok (.aload_n 0, 1) := by decide +kernel
theorem dX6_init_5 : decode cX6_init 5 = .ok (.sipush 700, 3) := by decide +kernel
theorem dX6_init_8 : decode cX6_init 8 = .ok (.newarray .byte, 2) := by decide +kernel
theorem dX6_init_10 : decode cX6_init 10 = .ok (.putfield 9, 3) := by decide +kernel
theorem dX6_init_13 : decode cX6_init 13 = .ok (.aload_n 0, 1) := by decide +kernel
theorem dX6_init_14 : decode cX6_init 14 = .ok (.iconst (-1), 1) := by decide +kernel
theorem dX6_init_15 : decode cX6_init 15 = .ok (.putfield 13, 3) := by decide +kernel
theorem dX6_init_18 : decode cX6_init 18 = .ok (.aload_n 0, 1) := by decide +kernel
theorem dX6_init_19 : decode cX6_init 19 = .ok (.new 17, 3) := by decide +kernel
theorem dX6_init_22 : decode cX6_init 22 = .ok (.dup, 1) := by decide +kernel
theorem dX6_init_23 : decode cX6_init 23 = .ok (.invokespecial 19, 3) := by decide +kernel
theorem dX6_init_26 : decode cX6_init 26 = .ok (.putfield 20, 3) := by decide +kernel
theorem dX6_init_29 : decode cX6_init 29 = .ok (.aload_n 0, 1) := by decide +kernel
theorem dX6_init_30 : decode cX6_init 30 = .ok (.new 17, 3) := by decide +kernel
theorem dX6_init_33 : decode cX6_init 33 = .ok (.dup, 1) := by decide +kernel
theorem dX6_init_34 : decode cX6_init 34 = .ok (.invokespecial 19, 3) := by decide +kernel
theorem dX6_init_37 : decode cX6_init 37 = .ok (.putfield 24, 3) := by decide +kernel
theorem dX6_init_40 : decode cX6_init 40 = .ok (.aload_n 0, 1) := by decide +kernel
theorem dX6_init_41 : decode cX6_init 41 = .ok (.new 17, 3) := by decide +kernel
theorem dX6_init_44 : decode cX6_init 44 = .ok (.dup, 1) := by decide +kernel
theorem dX6_init_45 : decode cX6_init 45 = .ok (.invokespecial 19, 3) := by decide +kernel
theorem dX6_init_48 : decode cX6_init 48 = .ok (.putfield 27, 3) := by decide +kernel
theorem dX6_init_51 : decode cX6_init 51 = .ok (.aload_n 0, 1) := by decide +kernel
theorem dX6_init_52 : decode cX6_init 52 = .ok (.bipush 6, 2) := by decide +kernel
theorem dX6_init_54 : decode cX6_init 54 = .ok (.anewarray 17, 3) := by decide +kernel
theorem dX6_init_57 : decode cX6_init 57 = .ok (.putfield 30, 3) := by decide +kernel
theorem dX6_init_60 : decode cX6_init 60 = .ok (.iconst 0, 1) := by decide +kernel
theorem dX6_init_61 : decode cX6_init 61 = .ok (.istore_n 1, 1) := by decide +kernel
theorem dX6_init_62 : decode cX6_init 62 = .ok (.iload_n 1, 1) := by decide +kernel
theorem dX6_init_63 : decode cX6_init 63 = .ok (.bipush 6, 2) := by decide +kernel
theorem dX6_init_65 : decode cX6_init 65 = .ok (.if_icmp .ge 22, 3) := by decide +kernel
theorem dX6_init_68 : decode cX6_init 68 = .ok (.aload_n 0, 1) := by decide +kernel
theorem dX6_init_69 : decode cX6_init 69 = .ok (.getfield 30, 3) := by decide +kernel
theorem dX6_init_72 : decode cX6_init 72 = .ok (.iload_n 1, 1) := by decide +kernel
theorem dX6_init_73 : decode cX6_init 73 = .ok (.new 17, 3) := by decide +kernel
theorem dX6_init_76 : decode cX6_init 76 = .ok (.dup, 1) := by decide +kernel
theorem dX6_init_77 : decode cX6_init 77 = .ok (.invokespecial 19, 3) := by decide +kernel
theorem dX6_init_80 : decode cX6_init 80 = .ok (.aastore, 1) := by decide +kernel
theorem dX6_init_81 : decode cX6_init 81 = .ok (.iinc 1 1, 3) := by decide +kernel
theorem dX6_init_84 : decode cX6_init 84 = .ok (.goto (-22), 3) := by decide +kernel
theorem dX6_init_87 : decode cX6_init 87 = .ok (.aload_n 0, 1) := by decide +kernel
theorem dX6_init_88 : decode cX6_init 88 = .ok (.new 34, 3) := by decide +kernel
theorem dX6_init_91 : decode cX6_init 91 = .ok (.dup, 1) := by decide +kernel
theorem dX6_init_92 : decode cX6_init 92 = .ok (.invokespecial 36, 3) := by decide +kernel
theorem dX6_init_95 : decode cX6_init 95 = .ok (.putfield 37, 3) := by decide +kernel
theorem dX6_init_98 : decode cX6_init 98 = .ok (.aload_n 0, 1) := by decide +kernel
theorem dX6_init_99 : decode cX6_init 99 = .ok (.new 41, 3) := by decide +kernel
theorem dX6_init_102 : decode cX6_init 102 = .ok (.dup, 1) := by decide +kernel
theorem dX6_init_103 : decode cX6_init 103 = .ok (.invokespecial 43, 3) := by decide +kernel
theorem dX6_init_106 : decode cX6_init 106 = .ok (.putfield 44, 3) := by decide +kernel
theorem dX6_init_109 : decode cX6_init 109 = .ok (.aload_n 0, 1) := by decide +kernel
theorem dX6_init_110 : decode cX6_init 110 = .ok (.new 48, 3) := by decide +kernel
theorem dX6_init_113 : decode cX6_init 113 = .ok (.dup, 1) := by decide +kernel
theorem dX6_init_114 : decode cX6_init 114 = .ok (.invokespecial 50, 3) := by decide +kernel
theorem dX6_init_117 : decode cX6_init 117 = .ok (.putfield 51, 3) := by decide +kernel
theorem dX6_init_120 : decode cX6_init 120 = .ok (.return_, 1) := by decide +kernel
theorem dX6_feed_0 : decode cX6_feed 0 = .ok (.aload_n 0, 1) := by decide +kernel
theorem dX6_feed_1 : decode cX6_feed 1 = .ok (.getfield 55, 3) := by decide +kernel
theorem dX6_feed_4 : decode cX6_feed 4 = .ok (.bipush 20, 2) := by decide +kernel
theorem dX6_feed_6 : decode cX6_feed 6 = .ok (.iadd, 1) := by decide +kernel
theorem dX6_feed_7 : decode cX6_feed 7 = .ok (.sipush 700, 3) := by decide +kernel
theorem dX6_feed_10 : decode cX6_feed 10 = .ok (.if_icmp .le 11, 3) := by decide +kernel
theorem dX6_feed_13 : decode cX6_feed 13 = .ok (.new 58, 3) := by decide +kernel
theorem dX6_feed_16 : decode cX6_feed 16 = .ok (.dup, 1) := by decide +kernel
theorem dX6_feed_17 : decode cX6_feed 17 = .ok (.invokespecial 60, 3) := by decide +kernel
theorem dX6_feed_20 : decode cX6_feed 20 = .ok (.athrow, 1) := by decide +kernel
theorem dX6_feed_21 : decode cX6_feed 21 = .ok (.aload_n 0, 1) := by decide +kernel
theorem dX6_feed_22 : decode cX6_feed 22 = .ok (.iload_n 1, 1) := by decide +kernel
theorem dX6_feed_23 : decode cX6_feed 23 = .ok (.invokevirtual 61, 3) := by decide +kernel
theorem dX6_feed_26 : decode cX6_feed 26 = .ok (.aload_n 0, 1) := by decide +kernel
theorem dX6_feed_27 : decode cX6_feed 27 = .ok (.iload_n 2, 1) := by decide +kernel
theorem dX6_feed_28 : decode cX6_feed 28 = .ok (.invokevirtual 61, 3) := by decide +kernel
theorem dX6_feed_31 : decode cX6_feed 31 = .ok (.aload_n 0, 1) := by decide +kernel
theorem dX6_feed_32 : decode cX6_feed 32 = .ok (.iload_n 3, 1) := by decide +kernel
theorem dX6_feed_33 : decode cX6_feed 33 = .ok (.invokevirtual 61, 3) := by decide +kernel
theorem dX6_feed_36 : decode cX6_feed 36 = .ok (.aload_n 0, 1) := by decide +kernel
theorem dX6_feed_37 : decode cX6_feed 37 = .ok (.iload 4, 2) := by decide +kernel
theorem dX6_feed_39 : decode cX6_feed 39 = .ok (.invokevirtual 61, 3) := by decide +kernel
theorem dX6_feed_42 : decode cX6_feed 42 = .ok (.aload_n 0, 1) := by decide +kernel
theorem dX6_feed_43 : decode cX6_feed 43 = .ok (.iload 5, 2) := by decide +kernel
theorem dX6_feed_45 : decode cX6_feed 45 = .ok (.invokevirtual 61, 3) := by decide +kernel
theorem dX6_feed_48 : decode cX6_feed 48 = .ok (.aload_n 0, 1) := by decide +kernel
theorem dX6_feed_49 : decode cX6_feed 49 = .ok (.getfield 55, 3) := by decide +kernel
theorem dX6_feed_52 : decode cX6_feed 52 = .ok (.ireturn, 1) := by decide +kernel
theorem dX6_append_0 : decode cX6_append 0 = .ok (.bipush 24, 2) := by decide +kernel
theorem dX6_append_2 : decode cX6_append 2 = .ok (.istore_n 2, 1) := by decide +kernel
theorem dX6_append_3 : decode cX6_append 3 = .ok (.iload_n 2, 1) := by decide +kernel
theorem dX6_append_4 : decode cX6_append 4 = .ok (.ifCond .lt 42, 3) := by decide +kernel
theorem dX6_append_7 : decode cX6_append 7 = .ok (.aload_n 0, 1) := by decide +kernel
theorem dX6_append_8 : decode cX6_append 8 = .ok (.getfield 55, 3) := by decide +kernel
theorem dX6_append_11 : decode cX6_append 11 = .ok (.sipush 700, 3) := by decide +kernel
theorem dX6_append_14 : decode cX6_append 14 = .ok (.if_icmp .ge 32, 3) := by decide +kernel
theorem dX6_append_17 : decode cX6_append 17 = .ok (.aload_n 0, 1) := by decide +kernel
theorem dX6_append_18 : decode cX6_append 18 = .ok (.getfield 9, 3) := by decide +kernel
theorem dX6_append_21 : decode cX6_append 21 = .ok (.aload_n 0, 1) := by decide +kernel
theorem dX6_append_22 : decode cX6_append 22 = .ok (.getfield 55, 3) := by decide +kernel
theorem dX6_append_25 : decode cX6_append 25 = .ok (.iload_n 1, 1) := by decide +kernel
theorem dX6_append_26 : decode cX6_append 26 = .ok (.iload_n 2, 1) := by decide +kernel
theorem dX6_append_27 : decode cX6_append 27 = .ok (.iushr, 1) := by decide +kernel
theorem dX6_append_28 : decode cX6_append 28 = .ok (.i2b, 1) := by decide +kernel
theorem dX6_append_29 : decode cX6_append 29 = .ok (.bastore, 1) := by decide +kernel
theorem dX6_append_30 : decode cX6_append 30 = .ok (.aload_n 0, 1) := by decide +kernel
theorem dX6_append_31 : decode cX6_append 31 = .ok (.dup, 1) := by decide +kernel
theorem dX6_append_32 : decode cX6_append 32 = .ok (.getfield 55, 3) := by decide +kernel
theorem dX6_append_35 : decode cX6_append 35 = .ok (.iconst 1, 1) := by decide +kernel
theorem dX6_append_36 : decode cX6_append 36 = .ok (.iadd, 1) := by decide +kernel
theorem dX6_append_37 : decode cX6_append 37 = .ok (.putfield 55, 3) := by decide +kernel
theorem dX6_append_40 : decode cX6_append 40 = .ok (.iinc 2 (-8), 3) := by decide +kernel
theorem dX6_append_43 : decode cX6_append 43 = .ok (.goto (-40), 3) := by decide +kernel
theorem dX6_append_46 : decode cX6_append 46 = .ok (.return_, 1) := by decide +kernel
theorem dX6_truncate_0 : decode cX6_truncate 0 = .ok (.iload_n 1, 1) := by decide +kernel
theorem dX6_truncate_1 : decode cX6_truncate 1 = .ok (.ifCond .lt 11, 3) := by decide +kernel
theorem dX6_truncate_4 : decode cX6_truncate 4 = .ok (.iload_n 1, 1) := by decide +kernel
theorem dX6_truncate_5 : decode cX6_truncate 5 = .ok (.aload_n 0, 1) := by decide +kernel
theorem dX6_truncate_6 : decode cX6_truncate 6 = .ok (.getfield 55, 3) := by decide +kernel
theorem dX6_truncate_9 : decode cX6_truncate 9 = .ok (.if_icmp .le 11, 3) := by decide +kernel
theorem dX6_truncate_12 : decode cX6_truncate 12 = .ok (.new 65, 3) := by decide +kernel
theorem dX6_truncate_15 : decode cX6_truncate 15 = .ok (.dup, 1) := by decide +kernel
theorem dX6_truncate_16 : decode cX6_truncate 16 = .ok (.invokespecial 67, 3) := by decide +kernel
theorem dX6_truncate_19 : decode cX6_truncate 19 = .ok (.athrow, 1) := by decide +kernel
theorem dX6_truncate_20 : decode cX6_truncate 20 = .ok (.aload_n 0, 1) := by decide +kernel
theorem dX6_truncate_21 : decode cX6_truncate 21 = .ok (.iload_n 1, 1) := by decide +kernel
theorem dX6_truncate_22 : decode cX6_truncate 22 = .ok (.putfield 55, 3) := by decide +kernel
theorem dX6_truncate_25 : decode cX6_truncate 25 = .ok (.iload_n 1, 1) := by decide +kernel
theorem dX6_truncate_26 : decode cX6_truncate 26 = .ok (.ireturn, 1) := by decide +kernel
theorem dX6_readText_0 : decode cX6_readText 0 = .ok (.aload_n 0, 1) := by decide +kernel
theorem dX6_readText_1 : decode cX6_readText 1 = .ok (.getfield 44, 3) := by decide +kernel
theorem dX6_readText_4 : decode cX6_readText 4 = .ok (.getfield 68, 3) := by decide +kernel
theorem dX6_readText_7 : decode cX6_readText 7 = .ok (.aload_n 0, 1) := by decide +kernel
theorem dX6_readText_8 : decode cX6_readText 8 = .ok (.getfield 9, 3) := by decide +kernel
theorem dX6_readText_11 : decode cX6_readText 11 = .ok (.aload_n 0, 1) := by decide +kernel
theorem dX6_readText_12 : decode cX6_readText 12 = .ok (.getfield 55, 3) := by decide +kernel
theorem dX6_readText_15 : decode cX6_readText 15 = .ok (.invokevirtual 72, 3) := by decide +kernel
theorem dX6_readText_18 : decode cX6_readText 18 = .ok (.aload_n 0, 1) := by decide +kernel
theorem dX6_readText_19 : decode cX6_readText 19 = .ok (.getfield 44, 3) := by decide +kernel
theorem dX6_readText_22 : decode cX6_readText 22 = .ok (.aload_n 0, 1) := by decide +kernel
theorem dX6_readText_23 : decode cX6_readText 23 = .ok (.getfield 24, 3) := by decide +kernel
theorem dX6_readText_26 : decode cX6_readText 26 = .ok (.invokevirtual 78, 3) := by decide +kernel
theorem dX6_readText_29 : decode cX6_readText 29 = .ok (.istore_n 1, 1) := by decide +kernel
theorem dX6_readText_30 : decode cX6_readText 30 = .ok (.aload_n 0, 1) := by decide +kernel
theorem dX6_readText_31 : decode cX6_readText 31 = .ok (.aload_n 0, 1) := by decide +kernel
theorem dX6_readText_32 : decode cX6_readText 32 = .ok (.getfield 44, 3) := by decide +kernel
theorem dX6_readText_35 : decode cX6_readText 35 = .ok (.getfield 68, 3) := by decide +kernel
theorem dX6_readText_38 : decode cX6_readText 38 = .ok (.invokevirtual 82, 3) := by decide +kernel
theorem dX6_readText_41 : decode cX6_readText 41 = .ok (.iload_n 1, 1) := by decide +kernel
theorem dX6_readText_42 : decode cX6_readText 42 = .ok (.ifCond .ne 11, 3) := by decide +kernel
theorem dX6_readText_45 : decode cX6_readText 45 = .ok (.new 65, 3) := by decide +kernel
theorem dX6_readText_48 : decode cX6_readText 48 = .ok (.dup, 1) := by decide +kernel
theorem dX6_readText_49 : decode cX6_readText 49 = .ok (.invokespecial 67, 3) := by decide +kernel
theorem dX6_readText_52 : decode cX6_readText 52 = .ok (.athrow, 1) := by decide +kernel
theorem dX6_readText_53 : decode cX6_readText 53 = .ok (.aload_n 0, 1) := by decide +kernel
theorem dX6_readText_54 : decode cX6_readText 54 = .ok (.getfield 20, 3) := by decide +kernel
theorem dX6_readText_57 : decode cX6_readText 57 = .ok (.aload_n 0, 1) := by decide +kernel
theorem dX6_readText_58 : decode cX6_readText 58 = .ok (.getfield 24, 3) := by decide +kernel
theorem dX6_readText_61 : decode cX6_readText 61 = .ok (.invokevirtual 86, 3) := by decide +kernel
theorem dX6_readText_64 : decode cX6_readText 64 = .ok (.aload_n 0, 1) := by decide +kernel
theorem dX6_readText_65 : decode cX6_readText 65 = .ok (.iconst 0, 1) := by decide +kernel
theorem dX6_readText_66 : decode cX6_readText 66 = .ok (.putfield 90, 3) := by decide +kernel
theorem dX6_readText_69 : decode cX6_readText 69 = .ok (.aload_n 0, 1) := by decide +kernel
theorem dX6_readText_70 : decode cX6_readText 70 = .ok (.getfield 20, 3) := by decide +kernel
theorem dX6_readText_73 : decode cX6_readText 73 = .ok (.getfield 93, 3) := by decide +kernel
theorem dX6_readText_76 : decode cX6_readText 76 = .ok (.ireturn, 1) := by decide +kernel
theorem dX6_runScript_0 : decode cX6_runScript 0 = .ok (.aload_n 0, 1) := by decide +kernel
theorem dX6_runScript_1 : decode cX6_runScript 1 = .ok (.getfield 51, 3) := by decide +kernel
theorem dX6_runScript_4 : decode cX6_runScript 4 = .ok (.getfield 96, 3) := by decide +kernel
theorem dX6_runScript_7 : decode cX6_runScript 7 = .ok (.aload_n 0, 1) := by decide +kernel
theorem dX6_runScript_8 : decode cX6_runScript 8 = .ok (.getfield 9, 3) := by decide +kernel
theorem dX6_runScript_11 : decode cX6_runScript 11 = .ok (.aload_n 0, 1) := by decide +kernel
theorem dX6_runScript_12 : decode cX6_runScript 12 = .ok (.getfield 55, 3) := by decide +kernel
theorem dX6_runScript_15 : decode cX6_runScript 15 = .ok (.invokevirtual 72, 3) := by decide +kernel
theorem dX6_runScript_18 : decode cX6_runScript 18 = .ok (.aload_n 0, 1) := by decide +kernel
theorem dX6_runScript_19 : decode cX6_runScript 19 = .ok (.getfield 51, 3) := by decide +kernel
theorem dX6_runScript_22 : decode cX6_runScript 22 = .ok (.aload_n 0, 1) := by decide +kernel
theorem dX6_runScript_23 : decode cX6_runScript 23 = .ok (.getfield 20, 3) := by decide +kernel
theorem dX6_runScript_26 : decode cX6_runScript 26 = .ok (.invokevirtual 97, 3) := by decide +kernel
theorem dX6_runScript_29 : decode cX6_runScript 29 = .ok (.istore_n 1, 1) := by decide +kernel
theorem dX6_runScript_30 : decode cX6_runScript 30 = .ok (.aload_n 0, 1) := by decide +kernel
theorem dX6_runScript_31 : decode cX6_runScript 31 = .ok (.aload_n 0, 1) := by decide +kernel
theorem dX6_runScript_32 : decode cX6_runScript 32 = .ok (.getfield 51, 3) := by decide +kernel
theorem dX6_runScript_35 : decode cX6_runScript 35 = .ok (.getfield 96, 3) := by decide +kernel
theorem dX6_runScript_38 : decode cX6_runScript 38 = .ok (.invokevirtual 82, 3) := by decide +kernel
theorem dX6_runScript_41 : decode cX6_runScript 41 = .ok (.iload_n 1, 1) := by decide +kernel
theorem dX6_runScript_42 : decode cX6_runScript 42 = .ok (.ifCond .ne 11, 3) := by decide +kernel
theorem dX6_runScript_45 : decode cX6_runScript 45 = .ok (.new 65, 3) := by decide +kernel
theorem dX6_runScript_48 : decode cX6_runScript 48 = .ok (.dup, 1) := by decide +kernel
theorem dX6_runScript_49 : decode cX6_runScript 49 = .ok (.invokespecial 67, 3) := by decide +kernel
theorem dX6_runScript_52 : decode cX6_runScript 52 = .ok (.athrow, 1) := by decide +kernel
theorem dX6_runScript_53 : decode cX6_runScript 53 = .ok (.aload_n 0, 1) := by decide +kernel
theorem dX6_runScript_54 : decode cX6_runScript 54 = .ok (.invokevirtual 98, 3) := by decide +kernel
theorem dX6_runScript_57 : decode cX6_runScript 57 = .ok (.aload_n 0, 1) := by decide +kernel
theorem dX6_runScript_58 : decode cX6_runScript 58 = .ok (.getfield 51, 3) := by decide +kernel
theorem dX6_runScript_61 : decode cX6_runScript 61 = .ok (.aload_n 0, 1) := by decide +kernel
theorem dX6_runScript_62 : decode cX6_runScript 62 = .ok (.getfield 20, 3) := by decide +kernel
theorem dX6_runScript_65 : decode cX6_runScript 65 = .ok (.invokevirtual 101, 3) := by decide +kernel
theorem dX6_runScript_68 : decode cX6_runScript 68 = .ok (.ireturn, 1) := by decide +kernel
theorem dX6_endReading_0 : decode cX6_endReading 0 = .ok (.aload_n 0, 1) := by decide +kernel
theorem dX6_endReading_1 : decode cX6_endReading 1 = .ok (.iconst 0, 1) := by decide +kernel
theorem dX6_endReading_2 : decode cX6_endReading 2 = .ok (.putfield 55, 3) := by decide +kernel
theorem dX6_endReading_5 : decode cX6_endReading 5 = .ok (.aload_n 0, 1) := by decide +kernel
theorem dX6_endReading_6 : decode cX6_endReading 6 = .ok (.aload_n 1, 1) := by decide +kernel
theorem dX6_endReading_7 : decode cX6_endReading 7 = .ok (.getfield 105, 3) := by decide +kernel
theorem dX6_endReading_10 : decode cX6_endReading 10 = .ok (.putfield 108, 3) := by decide +kernel
theorem dX6_endReading_13 : decode cX6_endReading 13 = .ok (.aload_n 0, 1) := by decide +kernel
theorem dX6_endReading_14 : decode cX6_endReading 14 = .ok (.aload_n 1, 1) := by decide +kernel
theorem dX6_endReading_15 : decode cX6_endReading 15 = .ok (.getfield 109, 3) := by decide +kernel
theorem dX6_endReading_18 : decode cX6_endReading 18 = .ok (.putfield 13, 3) := by decide +kernel
theorem dX6_endReading_21 : decode cX6_endReading 21 = .ok (.return_, 1) := by decide +kernel
theorem dX6_errorCode_0 : decode cX6_errorCode 0 = .ok (.aload_n 0, 1) := by decide +kernel
theorem dX6_errorCode_1 : decode cX6_errorCode 1 = .ok (.getfield 108, 3) := by decide +kernel
theorem dX6_errorCode_4 : decode cX6_errorCode 4 = .ok (.ireturn, 1) := by decide +kernel
theorem dX6_errorPosition_0 : decode cX6_errorPosition 0 = .ok (.aload_n 0, 1) := by decide +kernel
theorem dX6_errorPosition_1 : decode cX6_errorPosition 1 = .ok (.getfield 13, 3) := by decide +kernel
theorem dX6_errorPosition_4 : decode cX6_errorPosition 4 = .ok (.ireturn, 1) := by decide +kernel
theorem dX6_setting_0 : decode cX6_setting 0 = .ok (.iload_n 1, 1) := by decide +kernel
theorem dX6_setting_1 : decode cX6_setting 1 = .ok (.tableswitch 146 0 10 #[59, 67, 77, 85, 93, 101, 109, 117, 125, 133, 141], 59) := by decide +kernel
theorem dX6_setting_60 : decode cX6_setting 60 = .ok (.aload_n 0, 1) := by decide +kernel
theorem dX6_setting_61 : decode cX6_setting 61 = .ok (.getfield 20, 3) := by decide +kernel
theorem dX6_setting_64 : decode cX6_setting 64 = .ok (.getfield 93, 3) := by decide +kernel
theorem dX6_setting_67 : decode cX6_setting 67 = .ok (.ireturn, 1) := by decide +kernel
theorem dX6_setting_68 : decode cX6_setting 68 = .ok (.aload_n 0, 1) := by decide +kernel
theorem dX6_setting_69 : decode cX6_setting 69 = .ok (.getfield 20, 3) := by decide +kernel
theorem dX6_setting_72 : decode cX6_setting 72 = .ok (.invokevirtual 110, 3) := by decide +kernel
theorem dX6_setting_75 : decode cX6_setting 75 = .ok (.iconst 2, 1) := by decide +kernel
theorem dX6_setting_76 : decode cX6_setting 76 = .ok (.idiv, 1) := by decide +kernel
theorem dX6_setting_77 : decode cX6_setting 77 = .ok (.ireturn, 1) := by decide +kernel
theorem dX6_setting_78 : decode cX6_setting 78 = .ok (.aload_n 0, 1) := by decide +kernel
theorem dX6_setting_79 : decode cX6_setting 79 = .ok (.getfield 20, 3) := by decide +kernel
theorem dX6_setting_82 : decode cX6_setting 82 = .ok (.getfield 114, 3) := by decide +kernel
theorem dX6_setting_85 : decode cX6_setting 85 = .ok (.ireturn, 1) := by decide +kernel
theorem dX6_setting_86 : decode cX6_setting 86 = .ok (.aload_n 0, 1) := by decide +kernel
theorem dX6_setting_87 : decode cX6_setting 87 = .ok (.getfield 20, 3) := by decide +kernel
theorem dX6_setting_90 : decode cX6_setting 90 = .ok (.getfield 117, 3) := by decide +kernel
theorem dX6_setting_93 : decode cX6_setting 93 = .ok (.ireturn, 1) := by decide +kernel
theorem dX6_setting_94 : decode cX6_setting 94 = .ok (.aload_n 0, 1) := by decide +kernel
theorem dX6_setting_95 : decode cX6_setting 95 = .ok (.getfield 20, 3) := by decide +kernel
theorem dX6_setting_98 : decode cX6_setting 98 = .ok (.getfield 120, 3) := by decide +kernel
theorem dX6_setting_101 : decode cX6_setting 101 = .ok (.ireturn, 1) := by decide +kernel
theorem dX6_setting_102 : decode cX6_setting 102 = .ok (.aload_n 0, 1) := by decide +kernel
theorem dX6_setting_103 : decode cX6_setting 103 = .ok (.getfield 20, 3) := by decide +kernel
theorem dX6_setting_106 : decode cX6_setting 106 = .ok (.getfield 123, 3) := by decide +kernel
theorem dX6_setting_109 : decode cX6_setting 109 = .ok (.ireturn, 1) := by decide +kernel
theorem dX6_setting_110 : decode cX6_setting 110 = .ok (.aload_n 0, 1) := by decide +kernel
theorem dX6_setting_111 : decode cX6_setting 111 = .ok (.getfield 20, 3) := by decide +kernel
theorem dX6_setting_114 : decode cX6_setting 114 = .ok (.getfield 126, 3) := by decide +kernel
theorem dX6_setting_117 : decode cX6_setting 117 = .ok (.ireturn, 1) := by decide +kernel
theorem dX6_setting_118 : decode cX6_setting 118 = .ok (.aload_n 0, 1) := by decide +kernel
theorem dX6_setting_119 : decode cX6_setting 119 = .ok (.getfield 20, 3) := by decide +kernel
theorem dX6_setting_122 : decode cX6_setting 122 = .ok (.getfield 129, 3) := by decide +kernel
theorem dX6_setting_125 : decode cX6_setting 125 = .ok (.ireturn, 1) := by decide +kernel
theorem dX6_setting_126 : decode cX6_setting 126 = .ok (.aload_n 0, 1) := by decide +kernel
theorem dX6_setting_127 : decode cX6_setting 127 = .ok (.getfield 20, 3) := by decide +kernel
theorem dX6_setting_130 : decode cX6_setting 130 = .ok (.invokevirtual 132, 3) := by decide +kernel
theorem dX6_setting_133 : decode cX6_setting 133 = .ok (.ireturn, 1) := by decide +kernel
theorem dX6_setting_134 : decode cX6_setting 134 = .ok (.aload_n 0, 1) := by decide +kernel
theorem dX6_setting_135 : decode cX6_setting 135 = .ok (.getfield 20, 3) := by decide +kernel
theorem dX6_setting_138 : decode cX6_setting 138 = .ok (.getfield 135, 3) := by decide +kernel
theorem dX6_setting_141 : decode cX6_setting 141 = .ok (.ireturn, 1) := by decide +kernel
theorem dX6_setting_142 : decode cX6_setting 142 = .ok (.aload_n 0, 1) := by decide +kernel
theorem dX6_setting_143 : decode cX6_setting 143 = .ok (.getfield 90, 3) := by decide +kernel
theorem dX6_setting_146 : decode cX6_setting 146 = .ok (.ireturn, 1) := by decide +kernel
theorem dX6_setting_147 : decode cX6_setting 147 = .ok (.new 65, 3) := by decide +kernel
theorem dX6_setting_150 : decode cX6_setting 150 = .ok (.dup, 1) := by decide +kernel
theorem dX6_setting_151 : decode cX6_setting 151 = .ok (.invokespecial 67, 3) := by decide +kernel
theorem dX6_setting_154 : decode cX6_setting 154 = .ok (.athrow, 1) := by decide +kernel
theorem dX6_beacon_0 : decode cX6_beacon 0 = .ok (.aload_n 0, 1) := by decide +kernel
theorem dX6_beacon_1 : decode cX6_beacon 1 = .ok (.iload_n 1, 1) := by decide +kernel
theorem dX6_beacon_2 : decode cX6_beacon 2 = .ok (.invokevirtual 138, 3) := by decide +kernel
theorem dX6_beacon_5 : decode cX6_beacon 5 = .ok (.aload_n 0, 1) := by decide +kernel
theorem dX6_beacon_6 : decode cX6_beacon 6 = .ok (.getfield 20, 3) := by decide +kernel
theorem dX6_beacon_9 : decode cX6_beacon 9 = .ok (.getfield 141, 3) := by decide +kernel
theorem dX6_beacon_12 : decode cX6_beacon 12 = .ok (.iload_n 1, 1) := by decide +kernel
theorem dX6_beacon_13 : decode cX6_beacon 13 = .ok (.aaload, 1) := by decide +kernel
theorem dX6_beacon_14 : decode cX6_beacon 14 = .ok (.astore_n 3, 1) := by decide +kernel
theorem dX6_beacon_15 : decode cX6_beacon 15 = .ok (.iload_n 2, 1) := by decide +kernel
theorem dX6_beacon_16 : decode cX6_beacon 16 = .ok (.tableswitch 154 0 13 #[72, 77, 82, 87, 92, 97, 102, 107, 112, 125, 130, 139, 144, 149], 72) := by decide +kernel
theorem dX6_beacon_88 : decode cX6_beacon 88 = .ok (.aload_n 3, 1) := by decide +kernel
theorem dX6_beacon_89 : decode cX6_beacon 89 = .ok (.getfield 145, 3) := by decide +kernel
theorem dX6_beacon_92 : decode cX6_beacon 92 = .ok (.ireturn, 1) := by decide +kernel
theorem dX6_beacon_93 : decode cX6_beacon 93 = .ok (.aload_n 3, 1) := by decide +kernel
theorem dX6_beacon_94 : decode cX6_beacon 94 = .ok (.getfield 150, 3) := by decide +kernel
theorem dX6_beacon_97 : decode cX6_beacon 97 = .ok (.ireturn, 1) := by decide +kernel
theorem dX6_beacon_98 : decode cX6_beacon 98 = .ok (.aload_n 3, 1) := by decide +kernel
theorem dX6_beacon_99 : decode cX6_beacon 99 = .ok (.getfield 153, 3) := by decide +kernel
theorem dX6_beacon_102 : decode cX6_beacon 102 = .ok (.ireturn, 1) := by decide +kernel
theorem dX6_beacon_103 : decode cX6_beacon 103 = .ok (.aload_n 3, 1) := by decide +kernel
theorem dX6_beacon_104 : decode cX6_beacon 104 = .ok (.getfield 156, 3) := by decide +kernel
theorem dX6_beacon_107 : decode cX6_beacon 107 = .ok (.ireturn, 1) := by decide +kernel
theorem dX6_beacon_108 : decode cX6_beacon 108 = .ok (.aload_n 3, 1) := by decide +kernel
theorem dX6_beacon_109 : decode cX6_beacon 109 = .ok (.getfield 159, 3) := by decide +kernel
theorem dX6_beacon_112 : decode cX6_beacon 112 = .ok (.ireturn, 1) := by decide +kernel
theorem dX6_beacon_113 : decode cX6_beacon 113 = .ok (.aload_n 3, 1) := by decide +kernel
theorem dX6_beacon_114 : decode cX6_beacon 114 = .ok (.getfield 162, 3) := by decide +kernel
theorem dX6_beacon_117 : decode cX6_beacon 117 = .ok (.ireturn, 1) := by decide +kernel
theorem dX6_beacon_118 : decode cX6_beacon 118 = .ok (.aload_n 3, 1) := by decide +kernel
theorem dX6_beacon_119 : decode cX6_beacon 119 = .ok (.getfield 165, 3) := by decide +kernel
theorem dX6_beacon_122 : decode cX6_beacon 122 = .ok (.ireturn, 1) := by decide +kernel
theorem dX6_beacon_123 : decode cX6_beacon 123 = .ok (.aload_n 3, 1) := by decide +kernel
theorem dX6_beacon_124 : decode cX6_beacon 124 = .ok (.getfield 168, 3) := by decide +kernel
theorem dX6_beacon_127 : decode cX6_beacon 127 = .ok (.ireturn, 1) := by decide +kernel
theorem dX6_beacon_128 : decode cX6_beacon 128 = .ok (.aload_n 3, 1) := by decide +kernel
theorem dX6_beacon_129 : decode cX6_beacon 129 = .ok (.getfield 171, 3) := by decide +kernel
theorem dX6_beacon_132 : decode cX6_beacon 132 = .ok (.ifCond .eq 7, 3) := by decide +kernel
theorem dX6_beacon_135 : decode cX6_beacon 135 = .ok (.iconst 1, 1) := by decide +kernel
theorem dX6_beacon_136 : decode cX6_beacon 136 = .ok (.goto 4, 3) := by decide +kernel
theorem dX6_beacon_139 : decode cX6_beacon 139 = .ok (.iconst 0, 1) := by decide +kernel
theorem dX6_beacon_140 : decode cX6_beacon 140 = .ok (.ireturn, 1) := by decide +kernel
theorem dX6_beacon_141 : decode cX6_beacon 141 = .ok (.aload_n 3, 1) := by decide +kernel
theorem dX6_beacon_142 : decode cX6_beacon 142 = .ok (.getfield 175, 3) := by decide +kernel
theorem dX6_beacon_145 : decode cX6_beacon 145 = .ok (.ireturn, 1) := by decide +kernel
theorem dX6_beacon_146 : decode cX6_beacon 146 = .ok (.aload_n 0, 1) := by decide +kernel
theorem dX6_beacon_147 : decode cX6_beacon 147 = .ok (.getfield 20, 3) := by decide +kernel
theorem dX6_beacon_150 : decode cX6_beacon 150 = .ok (.aload_n 3, 1) := by decide +kernel
theorem dX6_beacon_151 : decode cX6_beacon 151 = .ok (.invokevirtual 178, 3) := by decide +kernel
theorem dX6_beacon_154 : decode cX6_beacon 154 = .ok (.ireturn, 1) := by decide +kernel
theorem dX6_beacon_155 : decode cX6_beacon 155 = .ok (.aload_n 3, 1) := by decide +kernel
theorem dX6_beacon_156 : decode cX6_beacon 156 = .ok (.getfield 182, 3) := by decide +kernel
theorem dX6_beacon_159 : decode cX6_beacon 159 = .ok (.ireturn, 1) := by decide +kernel
theorem dX6_beacon_160 : decode cX6_beacon 160 = .ok (.aload_n 3, 1) := by decide +kernel
theorem dX6_beacon_161 : decode cX6_beacon 161 = .ok (.getfield 183, 3) := by decide +kernel
theorem dX6_beacon_164 : decode cX6_beacon 164 = .ok (.ireturn, 1) := by decide +kernel
theorem dX6_beacon_165 : decode cX6_beacon 165 = .ok (.aload_n 3, 1) := by decide +kernel
theorem dX6_beacon_166 : decode cX6_beacon 166 = .ok (.getfield 184, 3) := by decide +kernel
theorem dX6_beacon_169 : decode cX6_beacon 169 = .ok (.ireturn, 1) := by decide +kernel
theorem dX6_beacon_170 : decode cX6_beacon 170 = .ok (.new 65, 3) := by decide +kernel
theorem dX6_beacon_173 : decode cX6_beacon 173 = .ok (.dup, 1) := by decide +kernel
theorem dX6_beacon_174 : decode cX6_beacon 174 = .ok (.invokespecial 67, 3) := by decide +kernel
theorem dX6_beacon_177 : decode cX6_beacon 177 = .ok (.athrow, 1) := by decide +kernel
theorem dX6_slots_0 : decode cX6_slots 0 = .ok (.aload_n 0, 1) := by decide +kernel
theorem dX6_slots_1 : decode cX6_slots 1 = .ok (.iload_n 1, 1) := by decide +kernel
theorem dX6_slots_2 : decode cX6_slots 2 = .ok (.invokevirtual 138, 3) := by decide +kernel
theorem dX6_slots_5 : decode cX6_slots 5 = .ok (.iload_n 2, 1) := by decide +kernel
theorem dX6_slots_6 : decode cX6_slots 6 = .ok (.ifCond .lt 8, 3) := by decide +kernel
theorem dX6_slots_9 : decode cX6_slots 9 = .ok (.iload_n 2, 1) := by decide +kernel
theorem dX6_slots_10 : decode cX6_slots 10 = .ok (.iconst 4, 1) := by decide +kernel
theorem dX6_slots_11 : decode cX6_slots 11 = .ok (.if_icmp .lt 11, 3) := by decide +kernel
theorem dX6_slots_14 : decode cX6_slots 14 = .ok (.new 65, 3) := by decide +kernel
theorem dX6_slots_17 : decode cX6_slots 17 = .ok (.dup, 1) := by decide +kernel
theorem dX6_slots_18 : decode cX6_slots 18 = .ok (.invokespecial 67, 3) := by decide +kernel
theorem dX6_slots_21 : decode cX6_slots 21 = .ok (.athrow, 1) := by decide +kernel
theorem dX6_slots_22 : decode cX6_slots 22 = .ok (.aload_n 0, 1) := by decide +kernel
theorem dX6_slots_23 : decode cX6_slots 23 = .ok (.getfield 20, 3) := by decide +kernel
theorem dX6_slots_26 : decode cX6_slots 26 = .ok (.getfield 141, 3) := by decide +kernel
theorem dX6_slots_29 : decode cX6_slots 29 = .ok (.iload_n 1, 1) := by decide +kernel
theorem dX6_slots_30 : decode cX6_slots 30 = .ok (.aaload, 1) := by decide +kernel
theorem dX6_slots_31 : decode cX6_slots 31 = .ok (.getfield 187, 3) := by decide +kernel
theorem dX6_slots_34 : decode cX6_slots 34 = .ok (.iload_n 2, 1) := by decide +kernel
theorem dX6_slots_35 : decode cX6_slots 35 = .ok (.iaload, 1) := by decide +kernel
theorem dX6_slots_36 : decode cX6_slots 36 = .ok (.ireturn, 1) := by decide +kernel
theorem dX6_reckoned_0 : decode cX6_reckoned 0 = .ok (.aload_n 0, 1) := by decide +kernel
theorem dX6_reckoned_1 : decode cX6_reckoned 1 = .ok (.iload_n 1, 1) := by decide +kernel
theorem dX6_reckoned_2 : decode cX6_reckoned 2 = .ok (.invokevirtual 138, 3) := by decide +kernel
theorem dX6_reckoned_5 : decode cX6_reckoned 5 = .ok (.iconst 0, 1) := by decide +kernel
theorem dX6_reckoned_6 : decode cX6_reckoned 6 = .ok (.istore_n 2, 1) := by decide +kernel
theorem dX6_reckoned_7 : decode cX6_reckoned 7 = .ok (.iconst 0, 1) := by decide +kernel
theorem dX6_reckoned_8 : decode cX6_reckoned 8 = .ok (.istore_n 3, 1) := by decide +kernel
theorem dX6_reckoned_9 : decode cX6_reckoned 9 = .ok (.iload_n 3, 1) := by decide +kernel
theorem dX6_reckoned_10 : decode cX6_reckoned 10 = .ok (.iconst 4, 1) := by decide +kernel
theorem dX6_reckoned_11 : decode cX6_reckoned 11 = .ok (.if_icmp .ge 36, 3) := by decide +kernel
theorem dX6_reckoned_14 : decode cX6_reckoned 14 = .ok (.iload_n 2, 1) := by decide +kernel
theorem dX6_reckoned_15 : decode cX6_reckoned 15 = .ok (.aload_n 0, 1) := by decide +kernel
theorem dX6_reckoned_16 : decode cX6_reckoned 16 = .ok (.getfield 20, 3) := by decide +kernel
theorem dX6_reckoned_19 : decode cX6_reckoned 19 = .ok (.getfield 141, 3) := by decide +kernel
theorem dX6_reckoned_22 : decode cX6_reckoned 22 = .ok (.iload_n 1, 1) := by decide +kernel
theorem dX6_reckoned_23 : decode cX6_reckoned 23 = .ok (.aaload, 1) := by decide +kernel
theorem dX6_reckoned_24 : decode cX6_reckoned 24 = .ok (.getfield 187, 3) := by decide +kernel
theorem dX6_reckoned_27 : decode cX6_reckoned 27 = .ok (.iload_n 3, 1) := by decide +kernel
theorem dX6_reckoned_28 : decode cX6_reckoned 28 = .ok (.iaload, 1) := by decide +kernel
theorem dX6_reckoned_29 : decode cX6_reckoned 29 = .ok (.aload_n 0, 1) := by decide +kernel
theorem dX6_reckoned_30 : decode cX6_reckoned 30 = .ok (.getfield 20, 3) := by decide +kernel
theorem dX6_reckoned_33 : decode cX6_reckoned 33 = .ok (.getfield 191, 3) := by decide +kernel
theorem dX6_reckoned_36 : decode cX6_reckoned 36 = .ok (.iload_n 3, 1) := by decide +kernel
theorem dX6_reckoned_37 : decode cX6_reckoned 37 = .ok (.iaload, 1) := by decide +kernel
theorem dX6_reckoned_38 : decode cX6_reckoned 38 = .ok (.imul, 1) := by decide +kernel
theorem dX6_reckoned_39 : decode cX6_reckoned 39 = .ok (.iadd, 1) := by decide +kernel
theorem dX6_reckoned_40 : decode cX6_reckoned 40 = .ok (.istore_n 2, 1) := by decide +kernel
theorem dX6_reckoned_41 : decode cX6_reckoned 41 = .ok (.iinc 3 1, 3) := by decide +kernel
theorem dX6_reckoned_44 : decode cX6_reckoned 44 = .ok (.goto (-35), 3) := by decide +kernel
theorem dX6_reckoned_47 : decode cX6_reckoned 47 = .ok (.iload_n 2, 1) := by decide +kernel
theorem dX6_reckoned_48 : decode cX6_reckoned 48 = .ok (.ireturn, 1) := by decide +kernel
theorem dX6_letter_0 : decode cX6_letter 0 = .ok (.aload_n 0, 1) := by decide +kernel
theorem dX6_letter_1 : decode cX6_letter 1 = .ok (.iload_n 1, 1) := by decide +kernel
theorem dX6_letter_2 : decode cX6_letter 2 = .ok (.invokevirtual 138, 3) := by decide +kernel
theorem dX6_letter_5 : decode cX6_letter 5 = .ok (.aload_n 0, 1) := by decide +kernel
theorem dX6_letter_6 : decode cX6_letter 6 = .ok (.getfield 20, 3) := by decide +kernel
theorem dX6_letter_9 : decode cX6_letter 9 = .ok (.getfield 141, 3) := by decide +kernel
theorem dX6_letter_12 : decode cX6_letter 12 = .ok (.iload_n 1, 1) := by decide +kernel
theorem dX6_letter_13 : decode cX6_letter 13 = .ok (.aaload, 1) := by decide +kernel
theorem dX6_letter_14 : decode cX6_letter 14 = .ok (.getfield 194, 3) := by decide +kernel
theorem dX6_letter_17 : decode cX6_letter 17 = .ok (.iload_n 2, 1) := by decide +kernel
theorem dX6_letter_18 : decode cX6_letter 18 = .ok (.invokestatic 198, 3) := by decide +kernel
theorem dX6_letter_21 : decode cX6_letter 21 = .ok (.ireturn, 1) := by decide +kernel
theorem dX6_heard_0 : decode cX6_heard 0 = .ok (.aload_n 0, 1) := by decide +kernel
theorem dX6_heard_1 : decode cX6_heard 1 = .ok (.iload_n 1, 1) := by decide +kernel
theorem dX6_heard_2 : decode cX6_heard 2 = .ok (.invokevirtual 138, 3) := by decide +kernel
theorem dX6_heard_5 : decode cX6_heard 5 = .ok (.aload_n 0, 1) := by decide +kernel
theorem dX6_heard_6 : decode cX6_heard 6 = .ok (.iload_n 2, 1) := by decide +kernel
theorem dX6_heard_7 : decode cX6_heard 7 = .ok (.invokevirtual 138, 3) := by decide +kernel
theorem dX6_heard_10 : decode cX6_heard 10 = .ok (.aload_n 0, 1) := by decide +kernel
theorem dX6_heard_11 : decode cX6_heard 11 = .ok (.getfield 20, 3) := by decide +kernel
theorem dX6_heard_14 : decode cX6_heard 14 = .ok (.getfield 141, 3) := by decide +kernel
theorem dX6_heard_17 : decode cX6_heard 17 = .ok (.iload_n 1, 1) := by decide +kernel
theorem dX6_heard_18 : decode cX6_heard 18 = .ok (.aaload, 1) := by decide +kernel
theorem dX6_heard_19 : decode cX6_heard 19 = .ok (.getfield 202, 3) := by decide +kernel
theorem dX6_heard_22 : decode cX6_heard 22 = .ok (.iload_n 2, 1) := by decide +kernel
theorem dX6_heard_23 : decode cX6_heard 23 = .ok (.iaload, 1) := by decide +kernel
theorem dX6_heard_24 : decode cX6_heard 24 = .ok (.ireturn, 1) := by decide +kernel
theorem dX6_knows_0 : decode cX6_knows 0 = .ok (.aload_n 0, 1) := by decide +kernel
theorem dX6_knows_1 : decode cX6_knows 1 = .ok (.iload_n 1, 1) := by decide +kernel
theorem dX6_knows_2 : decode cX6_knows 2 = .ok (.invokevirtual 138, 3) := by decide +kernel
theorem dX6_knows_5 : decode cX6_knows 5 = .ok (.aload_n 0, 1) := by decide +kernel
theorem dX6_knows_6 : decode cX6_knows 6 = .ok (.iload_n 2, 1) := by decide +kernel
theorem dX6_knows_7 : decode cX6_knows 7 = .ok (.invokevirtual 138, 3) := by decide +kernel
theorem dX6_knows_10 : decode cX6_knows 10 = .ok (.aload_n 0, 1) := by decide +kernel
theorem dX6_knows_11 : decode cX6_knows 11 = .ok (.getfield 20, 3) := by decide +kernel
theorem dX6_knows_14 : decode cX6_knows 14 = .ok (.aload_n 0, 1) := by decide +kernel
theorem dX6_knows_15 : decode cX6_knows 15 = .ok (.getfield 20, 3) := by decide +kernel
theorem dX6_knows_18 : decode cX6_knows 18 = .ok (.getfield 141, 3) := by decide +kernel
theorem dX6_knows_21 : decode cX6_knows 21 = .ok (.iload_n 1, 1) := by decide +kernel
theorem dX6_knows_22 : decode cX6_knows 22 = .ok (.aaload, 1) := by decide +kernel
theorem dX6_knows_23 : decode cX6_knows 23 = .ok (.invokevirtual 178, 3) := by decide +kernel
theorem dX6_knows_26 : decode cX6_knows 26 = .ok (.iload_n 2, 1) := by decide +kernel
theorem dX6_knows_27 : decode cX6_knows 27 = .ok (.invokestatic 205, 3) := by decide +kernel
theorem dX6_knows_30 : decode cX6_knows 30 = .ok (.ireturn, 1) := by decide +kernel
theorem dX6_drain_0 : decode cX6_drain 0 = .ok (.aload_n 0, 1) := by decide +kernel
theorem dX6_drain_1 : decode cX6_drain 1 = .ok (.getfield 20, 3) := by decide +kernel
theorem dX6_drain_4 : decode cX6_drain 4 = .ok (.getfield 114, 3) := by decide +kernel
theorem dX6_drain_7 : decode cX6_drain 7 = .ok (.ifCond .ne 5, 3) := by decide +kernel
theorem dX6_drain_10 : decode cX6_drain 10 = .ok (.fconst 0, 1) := by decide +kernel
theorem dX6_drain_11 : decode cX6_drain 11 = .ok (.freturn, 1) := by decide +kernel
theorem dX6_drain_12 : decode cX6_drain 12 = .ok (.iconst 0, 1) := by decide +kernel
theorem dX6_drain_13 : decode cX6_drain 13 = .ok (.istore_n 1, 1) := by decide +kernel
theorem dX6_drain_14 : decode cX6_drain 14 = .ok (.iconst 0, 1) := by decide +kernel
theorem dX6_drain_15 : decode cX6_drain 15 = .ok (.istore_n 2, 1) := by decide +kernel
theorem dX6_drain_16 : decode cX6_drain 16 = .ok (.iload_n 2, 1) := by decide +kernel
theorem dX6_drain_17 : decode cX6_drain 17 = .ok (.aload_n 0, 1) := by decide +kernel
theorem dX6_drain_18 : decode cX6_drain 18 = .ok (.getfield 20, 3) := by decide +kernel
theorem dX6_drain_21 : decode cX6_drain 21 = .ok (.getfield 93, 3) := by decide +kernel
theorem dX6_drain_24 : decode cX6_drain 24 = .ok (.if_icmp .ge 24, 3) := by decide +kernel
theorem dX6_drain_27 : decode cX6_drain 27 = .ok (.iload_n 1, 1) := by decide +kernel
theorem dX6_drain_28 : decode cX6_drain 28 = .ok (.aload_n 0, 1) := by decide +kernel
theorem dX6_drain_29 : decode cX6_drain 29 = .ok (.getfield 20, 3) := by decide +kernel
theorem dX6_drain_32 : decode cX6_drain 32 = .ok (.getfield 141, 3) := by decide +kernel
theorem dX6_drain_35 : decode cX6_drain 35 = .ok (.iload_n 2, 1) := by decide +kernel
theorem dX6_drain_36 : decode cX6_drain 36 = .ok (.aaload, 1) := by decide +kernel
theorem dX6_drain_37 : decode cX6_drain 37 = .ok (.getfield 184, 3) := by decide +kernel
theorem dX6_drain_40 : decode cX6_drain 40 = .ok (.iadd, 1) := by decide +kernel
theorem dX6_drain_41 : decode cX6_drain 41 = .ok (.istore_n 1, 1) := by decide +kernel
theorem dX6_drain_42 : decode cX6_drain 42 = .ok (.iinc 2 1, 3) := by decide +kernel
theorem dX6_drain_45 : decode cX6_drain 45 = .ok (.goto (-29), 3) := by decide +kernel
theorem dX6_drain_48 : decode cX6_drain 48 = .ok (.iload_n 1, 1) := by decide +kernel
theorem dX6_drain_49 : decode cX6_drain 49 = .ok (.i2f, 1) := by decide +kernel
theorem dX6_drain_50 : decode cX6_drain 50 = .ok (.aload_n 0, 1) := by decide +kernel
theorem dX6_drain_51 : decode cX6_drain 51 = .ok (.getfield 20, 3) := by decide +kernel
theorem dX6_drain_54 : decode cX6_drain 54 = .ok (.getfield 114, 3) := by decide +kernel
theorem dX6_drain_57 : decode cX6_drain 57 = .ok (.i2f, 1) := by decide +kernel
theorem dX6_drain_58 : decode cX6_drain 58 = .ok (.fdiv, 1) := by decide +kernel
theorem dX6_drain_59 : decode cX6_drain 59 = .ok (.freturn, 1) := by decide +kernel
theorem dX6_knowledge_0 : decode cX6_knowledge 0 = .ok (.aload_n 0, 1) := by decide +kernel
theorem dX6_knowledge_1 : decode cX6_knowledge 1 = .ok (.getfield 20, 3) := by decide +kernel
theorem dX6_knowledge_4 : decode cX6_knowledge 4 = .ok (.invokevirtual 110, 3) := by decide +kernel
theorem dX6_knowledge_7 : decode cX6_knowledge 7 = .ok (.istore_n 1, 1) := by decide +kernel
theorem dX6_knowledge_8 : decode cX6_knowledge 8 = .ok (.iload_n 1, 1) := by decide +kernel
theorem dX6_knowledge_9 : decode cX6_knowledge 9 = .ok (.ifCond .ne 5, 3) := by decide +kernel
theorem dX6_knowledge_12 : decode cX6_knowledge 12 = .ok (.dconst 0, 1) := by decide +kernel
theorem dX6_knowledge_13 : decode cX6_knowledge 13 = .ok (.dreturn, 1) := by decide +kernel
theorem dX6_knowledge_14 : decode cX6_knowledge 14 = .ok (.iconst 0, 1) := by decide +kernel
theorem dX6_knowledge_15 : decode cX6_knowledge 15 = .ok (.istore_n 2, 1) := by decide +kernel
theorem dX6_knowledge_16 : decode cX6_knowledge 16 = .ok (.iconst 0, 1) := by decide +kernel
theorem dX6_knowledge_17 : decode cX6_knowledge 17 = .ok (.istore_n 3, 1) := by decide +kernel
theorem dX6_knowledge_18 : decode cX6_knowledge 18 = .ok (.iload_n 3, 1) := by decide +kernel
theorem dX6_knowledge_19 : decode cX6_knowledge 19 = .ok (.aload_n 0, 1) := by decide +kernel
theorem dX6_knowledge_20 : decode cX6_knowledge 20 = .ok (.getfield 20, 3) := by decide +kernel
theorem dX6_knowledge_23 : decode cX6_knowledge 23 = .ok (.getfield 93, 3) := by decide +kernel
theorem dX6_knowledge_26 : decode cX6_knowledge 26 = .ok (.if_icmp .ge 44, 3) := by decide +kernel
theorem dX6_knowledge_29 : decode cX6_knowledge 29 = .ok (.iload_n 2, 1) := by decide +kernel
theorem dX6_knowledge_30 : decode cX6_knowledge 30 = .ok (.aload_n 0, 1) := by decide +kernel
theorem dX6_knowledge_31 : decode cX6_knowledge 31 = .ok (.getfield 20, 3) := by decide +kernel
theorem dX6_knowledge_34 : decode cX6_knowledge 34 = .ok (.getfield 141, 3) := by decide +kernel
theorem dX6_knowledge_37 : decode cX6_knowledge 37 = .ok (.iload_n 3, 1) := by decide +kernel
theorem dX6_knowledge_38 : decode cX6_knowledge 38 = .ok (.aaload, 1) := by decide +kernel
theorem dX6_knowledge_39 : decode cX6_knowledge 39 = .ok (.getfield 175, 3) := by decide +kernel
theorem dX6_knowledge_42 : decode cX6_knowledge 42 = .ok (.aload_n 0, 1) := by decide +kernel
theorem dX6_knowledge_43 : decode cX6_knowledge 43 = .ok (.getfield 20, 3) := by decide +kernel
theorem dX6_knowledge_46 : decode cX6_knowledge 46 = .ok (.aload_n 0, 1) := by decide +kernel
theorem dX6_knowledge_47 : decode cX6_knowledge 47 = .ok (.getfield 20, 3) := by decide +kernel
theorem dX6_knowledge_50 : decode cX6_knowledge 50 = .ok (.getfield 141, 3) := by decide +kernel
theorem dX6_knowledge_53 : decode cX6_knowledge 53 = .ok (.iload_n 3, 1) := by decide +kernel
theorem dX6_knowledge_54 : decode cX6_knowledge 54 = .ok (.aaload, 1) := by decide +kernel
theorem dX6_knowledge_55 : decode cX6_knowledge 55 = .ok (.invokevirtual 178, 3) := by decide +kernel
theorem dX6_knowledge_58 : decode cX6_knowledge 58 = .ok (.iand, 1) := by decide +kernel
theorem dX6_knowledge_59 : decode cX6_knowledge 59 = .ok (.invokestatic 209, 3) := by decide +kernel
theorem dX6_knowledge_62 : decode cX6_knowledge 62 = .ok (.iadd, 1) := by decide +kernel
theorem dX6_knowledge_63 : decode cX6_knowledge 63 = .ok (.istore_n 2, 1) := by decide +kernel
theorem dX6_knowledge_64 : decode cX6_knowledge 64 = .ok (.iinc 3 1, 3) := by decide +kernel
theorem dX6_knowledge_67 : decode cX6_knowledge 67 = .ok (.goto (-49), 3) := by decide +kernel
theorem dX6_knowledge_70 : decode cX6_knowledge 70 = .ok (.iload_n 2, 1) := by decide +kernel
theorem dX6_knowledge_71 : decode cX6_knowledge 71 = .ok (.i2d, 1) := by decide +kernel
theorem dX6_knowledge_72 : decode cX6_knowledge 72 = .ok (.iload_n 1, 1) := by decide +kernel
theorem dX6_knowledge_73 : decode cX6_knowledge 73 = .ok (.i2d, 1) := by decide +kernel
theorem dX6_knowledge_74 : decode cX6_knowledge 74 = .ok (.ddiv, 1) := by decide +kernel
theorem dX6_knowledge_75 : decode cX6_knowledge 75 = .ok (.dreturn, 1) := by decide +kernel
theorem dX6_why_0 : decode cX6_why 0 = .ok (.aload_n 0, 1) := by decide +kernel
theorem dX6_why_1 : decode cX6_why 1 = .ok (.iload_n 1, 1) := by decide +kernel
theorem dX6_why_2 : decode cX6_why 2 = .ok (.invokevirtual 138, 3) := by decide +kernel
theorem dX6_why_5 : decode cX6_why 5 = .ok (.aload_n 0, 1) := by decide +kernel
theorem dX6_why_6 : decode cX6_why 6 = .ok (.getfield 20, 3) := by decide +kernel
theorem dX6_why_9 : decode cX6_why 9 = .ok (.getfield 141, 3) := by decide +kernel
theorem dX6_why_12 : decode cX6_why 12 = .ok (.iload_n 1, 1) := by decide +kernel
theorem dX6_why_13 : decode cX6_why 13 = .ok (.aaload, 1) := by decide +kernel
theorem dX6_why_14 : decode cX6_why 14 = .ok (.astore_n 2, 1) := by decide +kernel
theorem dX6_why_15 : decode cX6_why 15 = .ok (.aload_n 2, 1) := by decide +kernel
theorem dX6_why_16 : decode cX6_why 16 = .ok (.getfield 162, 3) := by decide +kernel
theorem dX6_why_19 : decode cX6_why 19 = .ok (.tableswitch 41 0 4 #[37, 39, 41, 33, 35], 33) := by decide +kernel
theorem dX6_why_52 : decode cX6_why 52 = .ok (.iconst 0, 1) := by decide +kernel
theorem dX6_why_53 : decode cX6_why 53 = .ok (.ireturn, 1) := by decide +kernel
theorem dX6_why_54 : decode cX6_why 54 = .ok (.iconst 1, 1) := by decide +kernel
theorem dX6_why_55 : decode cX6_why 55 = .ok (.ireturn, 1) := by decide +kernel
theorem dX6_why_56 : decode cX6_why 56 = .ok (.iconst 2, 1) := by decide +kernel
theorem dX6_why_57 : decode cX6_why 57 = .ok (.ireturn, 1) := by decide +kernel
theorem dX6_why_58 : decode cX6_why 58 = .ok (.iconst 3, 1) := by decide +kernel
theorem dX6_why_59 : decode cX6_why 59 = .ok (.ireturn, 1) := by decide +kernel
theorem dX6_why_60 : decode cX6_why 60 = .ok (.aload_n 2, 1) := by decide +kernel
theorem dX6_why_61 : decode cX6_why 61 = .ok (.getfield 175, 3) := by decide +kernel
theorem dX6_why_64 : decode cX6_why 64 = .ok (.aload_n 0, 1) := by decide +kernel
theorem dX6_why_65 : decode cX6_why 65 = .ok (.getfield 20, 3) := by decide +kernel
theorem dX6_why_68 : decode cX6_why 68 = .ok (.iconst 3, 1) := by decide +kernel
theorem dX6_why_69 : decode cX6_why 69 = .ok (.invokevirtual 215, 3) := by decide +kernel
theorem dX6_why_72 : decode cX6_why 72 = .ok (.iand, 1) := by decide +kernel
theorem dX6_why_73 : decode cX6_why 73 = .ok (.ifCond .eq 7, 3) := by decide +kernel
theorem dX6_why_76 : decode cX6_why 76 = .ok (.iconst 4, 1) := by decide +kernel
theorem dX6_why_77 : decode cX6_why 77 = .ok (.goto 4, 3) := by decide +kernel
theorem dX6_why_80 : decode cX6_why 80 = .ok (.iconst 5, 1) := by decide +kernel
theorem dX6_why_81 : decode cX6_why 81 = .ok (.ireturn, 1) := by decide +kernel
theorem dX6_whyNot_0 : decode cX6_whyNot 0 = .ok (.aload_n 0, 1) := by decide +kernel
theorem dX6_whyNot_1 : decode cX6_whyNot 1 = .ok (.iload_n 1, 1) := by decide +kernel
theorem dX6_whyNot_2 : decode cX6_whyNot 2 = .ok (.invokevirtual 138, 3) := by decide +kernel
theorem dX6_whyNot_5 : decode cX6_whyNot 5 = .ok (.aload_n 0, 1) := by decide +kernel
theorem dX6_whyNot_6 : decode cX6_whyNot 6 = .ok (.iload_n 2, 1) := by decide +kernel
theorem dX6_whyNot_7 : decode cX6_whyNot 7 = .ok (.invokevirtual 138, 3) := by decide +kernel
theorem dX6_whyNot_10 : decode cX6_whyNot 10 = .ok (.iload_n 1, 1) := by decide +kernel
theorem dX6_whyNot_11 : decode cX6_whyNot 11 = .ok (.iload_n 2, 1) := by decide +kernel
theorem dX6_whyNot_12 : decode cX6_whyNot 12 = .ok (.if_icmp .ne 7, 3) := by decide +kernel
theorem dX6_whyNot_15 : decode cX6_whyNot 15 = .ok (.iconst 5, 1) := by decide +kernel
theorem dX6_whyNot_16 : decode cX6_whyNot 16 = .ok (.goto 17, 3) := by decide +kernel
theorem dX6_whyNot_19 : decode cX6_whyNot 19 = .ok (.aload_n 0, 1) := by decide +kernel
theorem dX6_whyNot_20 : decode cX6_whyNot 20 = .ok (.getfield 20, 3) := by decide +kernel
theorem dX6_whyNot_23 : decode cX6_whyNot 23 = .ok (.getfield 141, 3) := by decide +kernel
theorem dX6_whyNot_26 : decode cX6_whyNot 26 = .ok (.iload_n 1, 1) := by decide +kernel
theorem dX6_whyNot_27 : decode cX6_whyNot 27 = .ok (.aaload, 1) := by decide +kernel
theorem dX6_whyNot_28 : decode cX6_whyNot 28 = .ok (.getfield 218, 3) := by decide +kernel
theorem dX6_whyNot_31 : decode cX6_whyNot 31 = .ok (.iload_n 2, 1) := by decide +kernel
theorem dX6_whyNot_32 : decode cX6_whyNot 32 = .ok (.iaload, 1) := by decide +kernel
theorem dX6_whyNot_33 : decode cX6_whyNot 33 = .ok (.ireturn, 1) := by decide +kernel
theorem dX6_dueIn_0 : decode cX6_dueIn 0 = .ok (.aload_n 0, 1) := by decide +kernel
theorem dX6_dueIn_1 : decode cX6_dueIn 1 = .ok (.iload_n 1, 1) := by decide +kernel
theorem dX6_dueIn_2 : decode cX6_dueIn 2 = .ok (.invokevirtual 138, 3) := by decide +kernel
theorem dX6_dueIn_5 : decode cX6_dueIn 5 = .ok (.aload_n 0, 1) := by decide +kernel
theorem dX6_dueIn_6 : decode cX6_dueIn 6 = .ok (.getfield 20, 3) := by decide +kernel
theorem dX6_dueIn_9 : decode cX6_dueIn 9 = .ok (.getfield 141, 3) := by decide +kernel
theorem dX6_dueIn_12 : decode cX6_dueIn 12 = .ok (.iload_n 1, 1) := by decide +kernel
theorem dX6_dueIn_13 : decode cX6_dueIn 13 = .ok (.aaload, 1) := by decide +kernel
theorem dX6_dueIn_14 : decode cX6_dueIn 14 = .ok (.aload_n 0, 1) := by decide +kernel
theorem dX6_dueIn_15 : decode cX6_dueIn 15 = .ok (.getfield 20, 3) := by decide +kernel
theorem dX6_dueIn_18 : decode cX6_dueIn 18 = .ok (.getfield 114, 3) := by decide +kernel
theorem dX6_dueIn_21 : decode cX6_dueIn 21 = .ok (.invokevirtual 221, 3) := by decide +kernel
theorem dX6_dueIn_24 : decode cX6_dueIn 24 = .ok (.ireturn, 1) := by decide +kernel
theorem dX6_hidden_0 : decode cX6_hidden 0 = .ok (.aload_n 0, 1) := by decide +kernel
theorem dX6_hidden_1 : decode cX6_hidden 1 = .ok (.iload_n 1, 1) := by decide +kernel
theorem dX6_hidden_2 : decode cX6_hidden 2 = .ok (.invokevirtual 138, 3) := by decide +kernel
theorem dX6_hidden_5 : decode cX6_hidden 5 = .ok (.aload_n 0, 1) := by decide +kernel
theorem dX6_hidden_6 : decode cX6_hidden 6 = .ok (.getfield 20, 3) := by decide +kernel
theorem dX6_hidden_9 : decode cX6_hidden 9 = .ok (.getfield 141, 3) := by decide +kernel
theorem dX6_hidden_12 : decode cX6_hidden 12 = .ok (.iload_n 1, 1) := by decide +kernel
theorem dX6_hidden_13 : decode cX6_hidden 13 = .ok (.aaload, 1) := by decide +kernel
theorem dX6_hidden_14 : decode cX6_hidden 14 = .ok (.getfield 175, 3) := by decide +kernel
theorem dX6_hidden_17 : decode cX6_hidden 17 = .ok (.istore_n 2, 1) := by decide +kernel
theorem dX6_hidden_18 : decode cX6_hidden 18 = .ok (.iconst 0, 1) := by decide +kernel
theorem dX6_hidden_19 : decode cX6_hidden 19 = .ok (.istore_n 3, 1) := by decide +kernel
theorem dX6_hidden_20 : decode cX6_hidden 20 = .ok (.iconst 0, 1) := by decide +kernel
theorem dX6_hidden_21 : decode cX6_hidden 21 = .ok (.istore 4, 2) := by decide +kernel
theorem dX6_hidden_23 : decode cX6_hidden 23 = .ok (.iload 4, 2) := by decide +kernel
theorem dX6_hidden_25 : decode cX6_hidden 25 = .ok (.aload_n 0, 1) := by decide +kernel
theorem dX6_hidden_26 : decode cX6_hidden 26 = .ok (.getfield 20, 3) := by decide +kernel
theorem dX6_hidden_29 : decode cX6_hidden 29 = .ok (.getfield 93, 3) := by decide +kernel
theorem dX6_hidden_32 : decode cX6_hidden 32 = .ok (.if_icmp .ge 52, 3) := by decide +kernel
theorem dX6_hidden_35 : decode cX6_hidden 35 = .ok (.iload_n 2, 1) := by decide +kernel
theorem dX6_hidden_36 : decode cX6_hidden 36 = .ok (.iload 4, 2) := by decide +kernel
theorem dX6_hidden_38 : decode cX6_hidden 38 = .ok (.invokestatic 205, 3) := by decide +kernel
theorem dX6_hidden_41 : decode cX6_hidden 41 = .ok (.ifCond .eq 37, 3) := by decide +kernel
theorem dX6_hidden_44 : decode cX6_hidden 44 = .ok (.iload_n 2, 1) := by decide +kernel
theorem dX6_hidden_45 : decode cX6_hidden 45 = .ok (.iconst 1, 1) := by decide +kernel
theorem dX6_hidden_46 : decode cX6_hidden 46 = .ok (.iload 4, 2) := by decide +kernel
theorem dX6_hidden_48 : decode cX6_hidden 48 = .ok (.ishl, 1) := by decide +kernel
theorem dX6_hidden_49 : decode cX6_hidden 49 = .ok (.iconst (-1), 1) := by decide +kernel
theorem dX6_hidden_50 : decode cX6_hidden 50 = .ok (.ixor, 1) := by decide +kernel
theorem dX6_hidden_51 : decode cX6_hidden 51 = .ok (.iand, 1) := by decide +kernel
theorem dX6_hidden_52 : decode cX6_hidden 52 = .ok (.istore 5, 2) := by decide +kernel
theorem dX6_hidden_54 : decode cX6_hidden 54 = .ok (.iload_n 3, 1) := by decide +kernel
theorem dX6_hidden_55 : decode cX6_hidden 55 = .ok (.iload 5, 2) := by decide +kernel
theorem dX6_hidden_57 : decode cX6_hidden 57 = .ok (.aload_n 0, 1) := by decide +kernel
theorem dX6_hidden_58 : decode cX6_hidden 58 = .ok (.getfield 20, 3) := by decide +kernel
theorem dX6_hidden_61 : decode cX6_hidden 61 = .ok (.getfield 141, 3) := by decide +kernel
theorem dX6_hidden_64 : decode cX6_hidden 64 = .ok (.iload 4, 2) := by decide +kernel
theorem dX6_hidden_66 : decode cX6_hidden 66 = .ok (.aaload, 1) := by decide +kernel
theorem dX6_hidden_67 : decode cX6_hidden 67 = .ok (.getfield 175, 3) := by decide +kernel
theorem dX6_hidden_70 : decode cX6_hidden 70 = .ok (.iconst (-1), 1) := by decide +kernel
theorem dX6_hidden_71 : decode cX6_hidden 71 = .ok (.ixor, 1) := by decide +kernel
theorem dX6_hidden_72 : decode cX6_hidden 72 = .ok (.iand, 1) := by decide +kernel
theorem dX6_hidden_73 : decode cX6_hidden 73 = .ok (.invokestatic 209, 3) := by decide +kernel
theorem dX6_hidden_76 : decode cX6_hidden 76 = .ok (.iadd, 1) := by decide +kernel
theorem dX6_hidden_77 : decode cX6_hidden 77 = .ok (.istore_n 3, 1) := by decide +kernel
theorem dX6_hidden_78 : decode cX6_hidden 78 = .ok (.iinc 4 1, 3) := by decide +kernel
theorem dX6_hidden_81 : decode cX6_hidden 81 = .ok (.goto (-58), 3) := by decide +kernel
theorem dX6_hidden_84 : decode cX6_hidden 84 = .ok (.iload_n 3, 1) := by decide +kernel
theorem dX6_hidden_85 : decode cX6_hidden 85 = .ok (.iconst 2, 1) := by decide +kernel
theorem dX6_hidden_86 : decode cX6_hidden 86 = .ok (.idiv, 1) := by decide +kernel
theorem dX6_hidden_87 : decode cX6_hidden 87 = .ok (.ireturn, 1) := by decide +kernel
theorem dX6_hops_0 : decode cX6_hops 0 = .ok (.aload_n 0, 1) := by decide +kernel
theorem dX6_hops_1 : decode cX6_hops 1 = .ok (.iload_n 1, 1) := by decide +kernel
theorem dX6_hops_2 : decode cX6_hops 2 = .ok (.invokevirtual 138, 3) := by decide +kernel
theorem dX6_hops_5 : decode cX6_hops 5 = .ok (.aload_n 0, 1) := by decide +kernel
theorem dX6_hops_6 : decode cX6_hops 6 = .ok (.iload_n 2, 1) := by decide +kernel
theorem dX6_hops_7 : decode cX6_hops 7 = .ok (.invokevirtual 138, 3) := by decide +kernel
theorem dX6_hops_10 : decode cX6_hops 10 = .ok (.iconst 1, 1) := by decide +kernel
theorem dX6_hops_11 : decode cX6_hops 11 = .ok (.iload_n 1, 1) := by decide +kernel
theorem dX6_hops_12 : decode cX6_hops 12 = .ok (.ishl, 1) := by decide +kernel
theorem dX6_hops_13 : decode cX6_hops 13 = .ok (.istore_n 3, 1) := by decide +kernel
theorem dX6_hops_14 : decode cX6_hops 14 = .ok (.iconst 0, 1) := by decide +kernel
theorem dX6_hops_15 : decode cX6_hops 15 = .ok (.istore 4, 2) := by decide +kernel
theorem dX6_hops_17 : decode cX6_hops 17 = .ok (.iload 4, 2) := by decide +kernel
theorem dX6_hops_19 : decode cX6_hops 19 = .ok (.bipush 8, 2) := by decide +kernel
theorem dX6_hops_21 : decode cX6_hops 21 = .ok (.if_icmp .ge 29, 3) := by decide +kernel
theorem dX6_hops_24 : decode cX6_hops 24 = .ok (.iload_n 3, 1) := by decide +kernel
theorem dX6_hops_25 : decode cX6_hops 25 = .ok (.iload_n 2, 1) := by decide +kernel
theorem dX6_hops_26 : decode cX6_hops 26 = .ok (.invokestatic 205, 3) := by decide +kernel
theorem dX6_hops_29 : decode cX6_hops 29 = .ok (.ifCond .eq 6, 3) := by decide +kernel
theorem dX6_hops_32 : decode cX6_hops 32 = .ok (.iload 4, 2) := by decide +kernel
theorem dX6_hops_34 : decode cX6_hops 34 = .ok (.ireturn, 1) := by decide +kernel
theorem dX6_hops_35 : decode cX6_hops 35 = .ok (.aload_n 0, 1) := by decide +kernel
theorem dX6_hops_36 : decode cX6_hops 36 = .ok (.getfield 20, 3) := by decide +kernel
theorem dX6_hops_39 : decode cX6_hops 39 = .ok (.iload_n 3, 1) := by decide +kernel
theorem dX6_hops_40 : decode cX6_hops 40 = .ok (.invokevirtual 224, 3) := by decide +kernel
theorem dX6_hops_43 : decode cX6_hops 43 = .ok (.istore_n 3, 1) := by decide +kernel
theorem dX6_hops_44 : decode cX6_hops 44 = .ok (.iinc 4 1, 3) := by decide +kernel
theorem dX6_hops_47 : decode cX6_hops 47 = .ok (.goto (-30), 3) := by decide +kernel
theorem dX6_hops_50 : decode cX6_hops 50 = .ok (.iconst (-1), 1) := by decide +kernel
theorem dX6_hops_51 : decode cX6_hops 51 = .ok (.ireturn, 1) := by decide +kernel
theorem dX6_groups_0 : decode cX6_groups 0 = .ok (.iconst 0, 1) := by decide +kernel
theorem dX6_groups_1 : decode cX6_groups 1 = .ok (.istore_n 1, 1) := by decide +kernel
theorem dX6_groups_2 : decode cX6_groups 2 = .ok (.iconst 0, 1) := by decide +kernel
theorem dX6_groups_3 : decode cX6_groups 3 = .ok (.istore_n 2, 1) := by decide +kernel
theorem dX6_groups_4 : decode cX6_groups 4 = .ok (.iconst 0, 1) := by decide +kernel
theorem dX6_groups_5 : decode cX6_groups 5 = .ok (.istore_n 3, 1) := by decide +kernel
theorem dX6_groups_6 : decode cX6_groups 6 = .ok (.iload_n 3, 1) := by decide +kernel
theorem dX6_groups_7 : decode cX6_groups 7 = .ok (.aload_n 0, 1) := by decide +kernel
theorem dX6_groups_8 : decode cX6_groups 8 = .ok (.getfield 20, 3) := by decide +kernel
theorem dX6_groups_11 : decode cX6_groups 11 = .ok (.getfield 93, 3) := by decide +kernel
theorem dX6_groups_14 : decode cX6_groups 14 = .ok (.if_icmp .ge 33, 3) := by decide +kernel
theorem dX6_groups_17 : decode cX6_groups 17 = .ok (.iload_n 2, 1) := by decide +kernel
theorem dX6_groups_18 : decode cX6_groups 18 = .ok (.iload_n 3, 1) := by decide +kernel
theorem dX6_groups_19 : decode cX6_groups 19 = .ok (.invokestatic 205, 3) := by decide +kernel
theorem dX6_groups_22 : decode cX6_groups 22 = .ok (.ifCond .ne 19, 3) := by decide +kernel
theorem dX6_groups_25 : decode cX6_groups 25 = .ok (.iinc 1 1, 3) := by decide +kernel
theorem dX6_groups_28 : decode cX6_groups 28 = .ok (.aload_n 0, 1) := by decide +kernel
theorem dX6_groups_29 : decode cX6_groups 29 = .ok (.getfield 20, 3) := by decide +kernel
theorem dX6_groups_32 : decode cX6_groups 32 = .ok (.iload_n 2, 1) := by decide +kernel
theorem dX6_groups_33 : decode cX6_groups 33 = .ok (.iconst 1, 1) := by decide +kernel
theorem dX6_groups_34 : decode cX6_groups 34 = .ok (.iload_n 3, 1) := by decide +kernel
theorem dX6_groups_35 : decode cX6_groups 35 = .ok (.ishl, 1) := by decide +kernel
theorem dX6_groups_36 : decode cX6_groups 36 = .ok (.ior, 1) := by decide +kernel
theorem dX6_groups_37 : decode cX6_groups 37 = .ok (.invokevirtual 227, 3) := by decide +kernel
theorem dX6_groups_40 : decode cX6_groups 40 = .ok (.istore_n 2, 1) := by decide +kernel
theorem dX6_groups_41 : decode cX6_groups 41 = .ok (.iinc 3 1, 3) := by decide +kernel
theorem dX6_groups_44 : decode cX6_groups 44 = .ok (.goto (-38), 3) := by decide +kernel
theorem dX6_groups_47 : decode cX6_groups 47 = .ok (.iload_n 1, 1) := by decide +kernel
theorem dX6_groups_48 : decode cX6_groups 48 = .ok (.ireturn, 1) := by decide +kernel
theorem dX6_ears_0 : decode cX6_ears 0 = .ok (.aload_n 0, 1) := by decide +kernel
theorem dX6_ears_1 : decode cX6_ears 1 = .ok (.iload_n 1, 1) := by decide +kernel
theorem dX6_ears_2 : decode cX6_ears 2 = .ok (.invokevirtual 138, 3) := by decide +kernel
theorem dX6_ears_5 : decode cX6_ears 5 = .ok (.aload_n 0, 1) := by decide +kernel
theorem dX6_ears_6 : decode cX6_ears 6 = .ok (.getfield 20, 3) := by decide +kernel
theorem dX6_ears_9 : decode cX6_ears 9 = .ok (.iconst 3, 1) := by decide +kernel
theorem dX6_ears_10 : decode cX6_ears 10 = .ok (.invokevirtual 215, 3) := by decide +kernel
theorem dX6_ears_13 : decode cX6_ears 13 = .ok (.iconst 1, 1) := by decide +kernel
theorem dX6_ears_14 : decode cX6_ears 14 = .ok (.iload_n 1, 1) := by decide +kernel
theorem dX6_ears_15 : decode cX6_ears 15 = .ok (.ishl, 1) := by decide +kernel
theorem dX6_ears_16 : decode cX6_ears 16 = .ok (.iconst (-1), 1) := by decide +kernel
theorem dX6_ears_17 : decode cX6_ears 17 = .ok (.ixor, 1) := by decide +kernel
theorem dX6_ears_18 : decode cX6_ears 18 = .ok (.iand, 1) := by decide +kernel
theorem dX6_ears_19 : decode cX6_ears 19 = .ok (.istore_n 2, 1) := by decide +kernel
theorem dX6_ears_20 : decode cX6_ears 20 = .ok (.iconst 0, 1) := by decide +kernel
theorem dX6_ears_21 : decode cX6_ears 21 = .ok (.istore_n 3, 1) := by decide +kernel
theorem dX6_ears_22 : decode cX6_ears 22 = .ok (.iconst 0, 1) := by decide +kernel
theorem dX6_ears_23 : decode cX6_ears 23 = .ok (.istore 4, 2) := by decide +kernel
theorem dX6_ears_25 : decode cX6_ears 25 = .ok (.iload 4, 2) := by decide +kernel
theorem dX6_ears_27 : decode cX6_ears 27 = .ok (.aload_n 0, 1) := by decide +kernel
theorem dX6_ears_28 : decode cX6_ears 28 = .ok (.getfield 20, 3) := by decide +kernel
theorem dX6_ears_31 : decode cX6_ears 31 = .ok (.getfield 93, 3) := by decide +kernel
theorem dX6_ears_34 : decode cX6_ears 34 = .ok (.if_icmp .ge 58, 3) := by decide +kernel
theorem dX6_ears_37 : decode cX6_ears 37 = .ok (.aload_n 0, 1) := by decide +kernel
theorem dX6_ears_38 : decode cX6_ears 38 = .ok (.getfield 20, 3) := by decide +kernel
theorem dX6_ears_41 : decode cX6_ears 41 = .ok (.getfield 141, 3) := by decide +kernel
theorem dX6_ears_44 : decode cX6_ears 44 = .ok (.iload 4, 2) := by decide +kernel
theorem dX6_ears_46 : decode cX6_ears 46 = .ok (.aaload, 1) := by decide +kernel
theorem dX6_ears_47 : decode cX6_ears 47 = .ok (.astore 5, 2) := by decide +kernel
theorem dX6_ears_49 : decode cX6_ears 49 = .ok (.aload 5, 2) := by decide +kernel
theorem dX6_ears_51 : decode cX6_ears 51 = .ok (.invokevirtual 230, 3) := by decide +kernel
theorem dX6_ears_54 : decode cX6_ears 54 = .ok (.ifCond .eq 32, 3) := by decide +kernel
theorem dX6_ears_57 : decode cX6_ears 57 = .ok (.aload 5, 2) := by decide +kernel
theorem dX6_ears_59 : decode cX6_ears 59 = .ok (.getfield 175, 3) := by decide +kernel
theorem dX6_ears_62 : decode cX6_ears 62 = .ok (.iload_n 1, 1) := by decide +kernel
theorem dX6_ears_63 : decode cX6_ears 63 = .ok (.invokestatic 205, 3) := by decide +kernel
theorem dX6_ears_66 : decode cX6_ears 66 = .ok (.ifCond .eq 20, 3) := by decide +kernel
theorem dX6_ears_69 : decode cX6_ears 69 = .ok (.aload 5, 2) := by decide +kernel
theorem dX6_ears_71 : decode cX6_ears 71 = .ok (.getfield 175, 3) := by decide +kernel
theorem dX6_ears_74 : decode cX6_ears 74 = .ok (.iload_n 2, 1) := by decide +kernel
theorem dX6_ears_75 : decode cX6_ears 75 = .ok (.iand, 1) := by decide +kernel
theorem dX6_ears_76 : decode cX6_ears 76 = .ok (.ifCond .ne 10, 3) := by decide +kernel
theorem dX6_ears_79 : decode cX6_ears 79 = .ok (.iload_n 3, 1) := by decide +kernel
theorem dX6_ears_80 : decode cX6_ears 80 = .ok (.iconst 1, 1) := by decide +kernel
theorem dX6_ears_81 : decode cX6_ears 81 = .ok (.iload 4, 2) := by decide +kernel
theorem dX6_ears_83 : decode cX6_ears 83 = .ok (.ishl, 1) := by decide +kernel
theorem dX6_ears_84 : decode cX6_ears 84 = .ok (.ior, 1) := by decide +kernel
theorem dX6_ears_85 : decode cX6_ears 85 = .ok (.istore_n 3, 1) := by decide +kernel
theorem dX6_ears_86 : decode cX6_ears 86 = .ok (.iinc 4 1, 3) := by decide +kernel
theorem dX6_ears_89 : decode cX6_ears 89 = .ok (.goto (-64), 3) := by decide +kernel
theorem dX6_ears_92 : decode cX6_ears 92 = .ok (.iload_n 3, 1) := by decide +kernel
theorem dX6_ears_93 : decode cX6_ears 93 = .ok (.ireturn, 1) := by decide +kernel
theorem dX6_earliest_0 : decode cX6_earliest 0 = .ok (.iconst (-1), 1) := by decide +kernel
theorem dX6_earliest_1 : decode cX6_earliest 1 = .ok (.istore_n 1, 1) := by decide +kernel
theorem dX6_earliest_2 : decode cX6_earliest 2 = .ok (.bipush 100, 2) := by decide +kernel
theorem dX6_earliest_4 : decode cX6_earliest 4 = .ok (.istore_n 2, 1) := by decide +kernel
theorem dX6_earliest_5 : decode cX6_earliest 5 = .ok (.iconst 0, 1) := by decide +kernel
theorem dX6_earliest_6 : decode cX6_earliest 6 = .ok (.istore_n 3, 1) := by decide +kernel
theorem dX6_earliest_7 : decode cX6_earliest 7 = .ok (.iload_n 3, 1) := by decide +kernel
theorem dX6_earliest_8 : decode cX6_earliest 8 = .ok (.aload_n 0, 1) := by decide +kernel
theorem dX6_earliest_9 : decode cX6_earliest 9 = .ok (.getfield 20, 3) := by decide +kernel
theorem dX6_earliest_12 : decode cX6_earliest 12 = .ok (.getfield 93, 3) := by decide +kernel
theorem dX6_earliest_15 : decode cX6_earliest 15 = .ok (.if_icmp .ge 41, 3) := by decide +kernel
theorem dX6_earliest_18 : decode cX6_earliest 18 = .ok (.aload_n 0, 1) := by decide +kernel
theorem dX6_earliest_19 : decode cX6_earliest 19 = .ok (.getfield 20, 3) := by decide +kernel
theorem dX6_earliest_22 : decode cX6_earliest 22 = .ok (.getfield 141, 3) := by decide +kernel
theorem dX6_earliest_25 : decode cX6_earliest 25 = .ok (.iload_n 3, 1) := by decide +kernel
theorem dX6_earliest_26 : decode cX6_earliest 26 = .ok (.aaload, 1) := by decide +kernel
theorem dX6_earliest_27 : decode cX6_earliest 27 = .ok (.aload_n 0, 1) := by decide +kernel
theorem dX6_earliest_28 : decode cX6_earliest 28 = .ok (.getfield 20, 3) := by decide +kernel
theorem dX6_earliest_31 : decode cX6_earliest 31 = .ok (.getfield 114, 3) := by decide +kernel
theorem dX6_earliest_34 : decode cX6_earliest 34 = .ok (.invokevirtual 221, 3) := by decide +kernel
theorem dX6_earliest_37 : decode cX6_earliest 37 = .ok (.istore 4, 2) := by decide +kernel
theorem dX6_earliest_39 : decode cX6_earliest 39 = .ok (.iload 4, 2) := by decide +kernel
theorem dX6_earliest_41 : decode cX6_earliest 41 = .ok (.iload_n 2, 1) := by decide +kernel
theorem dX6_earliest_42 : decode cX6_earliest 42 = .ok (.if_icmp .ge 8, 3) := by decide +kernel
theorem dX6_earliest_45 : decode cX6_earliest 45 = .ok (.iload_n 3, 1) := by decide +kernel
theorem dX6_earliest_46 : decode cX6_earliest 46 = .ok (.istore_n 1, 1) := by decide +kernel
theorem dX6_earliest_47 : decode cX6_earliest 47 = .ok (.iload 4, 2) := by decide +kernel
theorem dX6_earliest_49 : decode cX6_earliest 49 = .ok (.istore_n 2, 1) := by decide +kernel
theorem dX6_earliest_50 : decode cX6_earliest 50 = .ok (.iinc 3 1, 3) := by decide +kernel
theorem dX6_earliest_53 : decode cX6_earliest 53 = .ok (.goto (-46), 3) := by decide +kernel
theorem dX6_earliest_56 : decode cX6_earliest 56 = .ok (.iload_n 1, 1) := by decide +kernel
theorem dX6_earliest_57 : decode cX6_earliest 57 = .ok (.ireturn, 1) := by decide +kernel
theorem dX6_window_0 : decode cX6_window 0 = .ok (.aload_n 0, 1) := by decide +kernel
theorem dX6_window_1 : decode cX6_window 1 = .ok (.iload_n 1, 1) := by decide +kernel
theorem dX6_window_2 : decode cX6_window 2 = .ok (.invokevirtual 138, 3) := by decide +kernel
theorem dX6_window_5 : decode cX6_window 5 = .ok (.aload_n 0, 1) := by decide +kernel
theorem dX6_window_6 : decode cX6_window 6 = .ok (.getfield 20, 3) := by decide +kernel
theorem dX6_window_9 : decode cX6_window 9 = .ok (.getfield 141, 3) := by decide +kernel
theorem dX6_window_12 : decode cX6_window 12 = .ok (.iload_n 1, 1) := by decide +kernel
theorem dX6_window_13 : decode cX6_window 13 = .ok (.aaload, 1) := by decide +kernel
theorem dX6_window_14 : decode cX6_window 14 = .ok (.invokevirtual 234, 3) := by decide +kernel
theorem dX6_window_17 : decode cX6_window 17 = .ok (.ireturn, 1) := by decide +kernel
theorem dX6_stateIn_0 : decode cX6_stateIn 0 = .ok (.aload_n 0, 1) := by decide +kernel
theorem dX6_stateIn_1 : decode cX6_stateIn 1 = .ok (.iload_n 1, 1) := by decide +kernel
theorem dX6_stateIn_2 : decode cX6_stateIn 2 = .ok (.invokevirtual 138, 3) := by decide +kernel
theorem dX6_stateIn_5 : decode cX6_stateIn 5 = .ok (.iload_n 2, 1) := by decide +kernel
theorem dX6_stateIn_6 : decode cX6_stateIn 6 = .ok (.invokestatic 237, 3) := by decide +kernel
theorem dX6_stateIn_9 : decode cX6_stateIn 9 = .ok (.aload_n 0, 1) := by decide +kernel
theorem dX6_stateIn_10 : decode cX6_stateIn 10 = .ok (.iload_n 2, 1) := by decide +kernel
theorem dX6_stateIn_11 : decode cX6_stateIn 11 = .ok (.invokevirtual 240, 3) := by decide +kernel
theorem dX6_stateIn_14 : decode cX6_stateIn 14 = .ok (.aload_n 0, 1) := by decide +kernel
theorem dX6_stateIn_15 : decode cX6_stateIn 15 = .ok (.getfield 24, 3) := by decide +kernel
theorem dX6_stateIn_18 : decode cX6_stateIn 18 = .ok (.getfield 141, 3) := by decide +kernel
theorem dX6_stateIn_21 : decode cX6_stateIn 21 = .ok (.iload_n 1, 1) := by decide +kernel
theorem dX6_stateIn_22 : decode cX6_stateIn 22 = .ok (.aaload, 1) := by decide +kernel
theorem dX6_stateIn_23 : decode cX6_stateIn 23 = .ok (.getfield 162, 3) := by decide +kernel
theorem dX6_stateIn_26 : decode cX6_stateIn 26 = .ok (.ireturn, 1) := by decide +kernel
theorem dX6_energyIn_0 : decode cX6_energyIn 0 = .ok (.aload_n 0, 1) := by decide +kernel
theorem dX6_energyIn_1 : decode cX6_energyIn 1 = .ok (.iload_n 1, 1) := by decide +kernel
theorem dX6_energyIn_2 : decode cX6_energyIn 2 = .ok (.invokevirtual 138, 3) := by decide +kernel
theorem dX6_energyIn_5 : decode cX6_energyIn 5 = .ok (.iload_n 2, 1) := by decide +kernel
theorem dX6_energyIn_6 : decode cX6_energyIn 6 = .ok (.invokestatic 237, 3) := by decide +kernel
theorem dX6_energyIn_9 : decode cX6_energyIn 9 = .ok (.aload_n 0, 1) := by decide +kernel
theorem dX6_energyIn_10 : decode cX6_energyIn 10 = .ok (.iload_n 2, 1) := by decide +kernel
theorem dX6_energyIn_11 : decode cX6_energyIn 11 = .ok (.invokevirtual 240, 3) := by decide +kernel
theorem dX6_energyIn_14 : decode cX6_energyIn 14 = .ok (.aload_n 0, 1) := by decide +kernel
theorem dX6_energyIn_15 : decode cX6_energyIn 15 = .ok (.getfield 24, 3) := by decide +kernel
theorem dX6_energyIn_18 : decode cX6_energyIn 18 = .ok (.getfield 141, 3) := by decide +kernel
theorem dX6_energyIn_21 : decode cX6_energyIn 21 = .ok (.iload_n 1, 1) := by decide +kernel
theorem dX6_energyIn_22 : decode cX6_energyIn 22 = .ok (.aaload, 1) := by decide +kernel
theorem dX6_energyIn_23 : decode cX6_energyIn 23 = .ok (.getfield 159, 3) := by decide +kernel
theorem dX6_energyIn_26 : decode cX6_energyIn 26 = .ok (.ireturn, 1) := by decide +kernel
theorem dX6_collisionsIn_0 : decode cX6_collisionsIn 0 = .ok (.iload_n 1, 1) := by decide +kernel
theorem dX6_collisionsIn_1 : decode cX6_collisionsIn 1 = .ok (.invokestatic 237, 3) := by decide +kernel
theorem dX6_collisionsIn_4 : decode cX6_collisionsIn 4 = .ok (.aload_n 0, 1) := by decide +kernel
theorem dX6_collisionsIn_5 : decode cX6_collisionsIn 5 = .ok (.iload_n 1, 1) := by decide +kernel
theorem dX6_collisionsIn_6 : decode cX6_collisionsIn 6 = .ok (.invokevirtual 240, 3) := by decide +kernel
theorem dX6_collisionsIn_9 : decode cX6_collisionsIn 9 = .ok (.aload_n 0, 1) := by decide +kernel
theorem dX6_collisionsIn_10 : decode cX6_collisionsIn 10 = .ok (.getfield 24, 3) := by decide +kernel
theorem dX6_collisionsIn_13 : decode cX6_collisionsIn 13 = .ok (.getfield 129, 3) := by decide +kernel
theorem dX6_collisionsIn_16 : decode cX6_collisionsIn 16 = .ok (.aload_n 0, 1) := by decide +kernel
theorem dX6_collisionsIn_17 : decode cX6_collisionsIn 17 = .ok (.getfield 20, 3) := by decide +kernel
theorem dX6_collisionsIn_20 : decode cX6_collisionsIn 20 = .ok (.getfield 129, 3) := by decide +kernel
theorem dX6_collisionsIn_23 : decode cX6_collisionsIn 23 = .ok (.isub, 1) := by decide +kernel
theorem dX6_collisionsIn_24 : decode cX6_collisionsIn 24 = .ok (.ireturn, 1) := by decide +kernel
theorem dX6_knowsIn_0 : decode cX6_knowsIn 0 = .ok (.aload_n 0, 1) := by decide +kernel
theorem dX6_knowsIn_1 : decode cX6_knowsIn 1 = .ok (.iload_n 1, 1) := by decide +kernel
theorem dX6_knowsIn_2 : decode cX6_knowsIn 2 = .ok (.invokevirtual 138, 3) := by decide +kernel
theorem dX6_knowsIn_5 : decode cX6_knowsIn 5 = .ok (.aload_n 0, 1) := by decide +kernel
theorem dX6_knowsIn_6 : decode cX6_knowsIn 6 = .ok (.iload_n 2, 1) := by decide +kernel
theorem dX6_knowsIn_7 : decode cX6_knowsIn 7 = .ok (.invokevirtual 138, 3) := by decide +kernel
theorem dX6_knowsIn_10 : decode cX6_knowsIn 10 = .ok (.aload_n 0, 1) := by decide +kernel
theorem dX6_knowsIn_11 : decode cX6_knowsIn 11 = .ok (.iconst 0, 1) := by decide +kernel
theorem dX6_knowsIn_12 : decode cX6_knowsIn 12 = .ok (.iconst 0, 1) := by decide +kernel
theorem dX6_knowsIn_13 : decode cX6_knowsIn 13 = .ok (.iload_n 1, 1) := by decide +kernel
theorem dX6_knowsIn_14 : decode cX6_knowsIn 14 = .ok (.iload_n 2, 1) := by decide +kernel
theorem dX6_knowsIn_15 : decode cX6_knowsIn 15 = .ok (.invokevirtual 243, 3) := by decide +kernel
theorem dX6_knowsIn_18 : decode cX6_knowsIn 18 = .ok (.ireturn, 1) := by decide +kernel
theorem dX6_allKnownIn_0 : decode cX6_allKnownIn 0 = .ok (.aload_n 0, 1) := by decide +kernel
theorem dX6_allKnownIn_1 : decode cX6_allKnownIn 1 = .ok (.iconst 1, 1) := by decide +kernel
theorem dX6_allKnownIn_2 : decode cX6_allKnownIn 2 = .ok (.iconst 0, 1) := by decide +kernel
theorem dX6_allKnownIn_3 : decode cX6_allKnownIn 3 = .ok (.iconst 0, 1) := by decide +kernel
theorem dX6_allKnownIn_4 : decode cX6_allKnownIn 4 = .ok (.iconst 0, 1) := by decide +kernel
theorem dX6_allKnownIn_5 : decode cX6_allKnownIn 5 = .ok (.invokevirtual 243, 3) := by decide +kernel
theorem dX6_allKnownIn_8 : decode cX6_allKnownIn 8 = .ok (.ireturn, 1) := by decide +kernel
theorem dX6_outIn_0 : decode cX6_outIn 0 = .ok (.aload_n 0, 1) := by decide +kernel
theorem dX6_outIn_1 : decode cX6_outIn 1 = .ok (.iload_n 1, 1) := by decide +kernel
theorem dX6_outIn_2 : decode cX6_outIn 2 = .ok (.invokevirtual 138, 3) := by decide +kernel
theorem dX6_outIn_5 : decode cX6_outIn 5 = .ok (.aload_n 0, 1) := by decide +kernel
theorem dX6_outIn_6 : decode cX6_outIn 6 = .ok (.iconst 2, 1) := by decide +kernel
theorem dX6_outIn_7 : decode cX6_outIn 7 = .ok (.iconst 0, 1) := by decide +kernel
theorem dX6_outIn_8 : decode cX6_outIn 8 = .ok (.iload_n 1, 1) := by decide +kernel
theorem dX6_outIn_9 : decode cX6_outIn 9 = .ok (.iconst 0, 1) := by decide +kernel
theorem dX6_outIn_10 : decode cX6_outIn 10 = .ok (.invokevirtual 243, 3) := by decide +kernel
theorem dX6_outIn_13 : decode cX6_outIn 13 = .ok (.ireturn, 1) := by decide +kernel
theorem dX6_sendsIn_0 : decode cX6_sendsIn 0 = .ok (.aload_n 0, 1) := by decide +kernel
theorem dX6_sendsIn_1 : decode cX6_sendsIn 1 = .ok (.iload_n 1, 1) := by decide +kernel
theorem dX6_sendsIn_2 : decode cX6_sendsIn 2 = .ok (.invokevirtual 138, 3) := by decide +kernel
theorem dX6_sendsIn_5 : decode cX6_sendsIn 5 = .ok (.aload_n 0, 1) := by decide +kernel
theorem dX6_sendsIn_6 : decode cX6_sendsIn 6 = .ok (.getfield 20, 3) := by decide +kernel
theorem dX6_sendsIn_9 : decode cX6_sendsIn 9 = .ok (.getfield 141, 3) := by decide +kernel
theorem dX6_sendsIn_12 : decode cX6_sendsIn 12 = .ok (.iload_n 1, 1) := by decide +kernel
theorem dX6_sendsIn_13 : decode cX6_sendsIn 13 = .ok (.aaload, 1) := by decide +kernel
theorem dX6_sendsIn_14 : decode cX6_sendsIn 14 = .ok (.getfield 162, 3) := by decide +kernel
theorem dX6_sendsIn_17 : decode cX6_sendsIn 17 = .ok (.iconst 3, 1) := by decide +kernel
theorem dX6_sendsIn_18 : decode cX6_sendsIn 18 = .ok (.if_icmp .ne 7, 3) := by decide +kernel
theorem dX6_sendsIn_21 : decode cX6_sendsIn 21 = .ok (.iconst 0, 1) := by decide +kernel
theorem dX6_sendsIn_22 : decode cX6_sendsIn 22 = .ok (.goto 11, 3) := by decide +kernel
theorem dX6_sendsIn_25 : decode cX6_sendsIn 25 = .ok (.aload_n 0, 1) := by decide +kernel
theorem dX6_sendsIn_26 : decode cX6_sendsIn 26 = .ok (.iconst 3, 1) := by decide +kernel
theorem dX6_sendsIn_27 : decode cX6_sendsIn 27 = .ok (.iconst 1, 1) := by decide +kernel
theorem dX6_sendsIn_28 : decode cX6_sendsIn 28 = .ok (.iload_n 1, 1) := by decide +kernel
theorem dX6_sendsIn_29 : decode cX6_sendsIn 29 = .ok (.iconst 0, 1) := by decide +kernel
theorem dX6_sendsIn_30 : decode cX6_sendsIn 30 = .ok (.invokevirtual 243, 3) := by decide +kernel
theorem dX6_sendsIn_33 : decode cX6_sendsIn 33 = .ok (.ireturn, 1) := by decide +kernel
theorem dX6_wellIn_0 : decode cX6_wellIn 0 = .ok (.aload_n 0, 1) := by decide +kernel
theorem dX6_wellIn_1 : decode cX6_wellIn 1 = .ok (.iload_n 1, 1) := by decide +kernel
theorem dX6_wellIn_2 : decode cX6_wellIn 2 = .ok (.invokevirtual 138, 3) := by decide +kernel
theorem dX6_wellIn_5 : decode cX6_wellIn 5 = .ok (.aload_n 0, 1) := by decide +kernel
theorem dX6_wellIn_6 : decode cX6_wellIn 6 = .ok (.iconst 4, 1) := by decide +kernel
theorem dX6_wellIn_7 : decode cX6_wellIn 7 = .ok (.iconst 1, 1) := by decide +kernel
theorem dX6_wellIn_8 : decode cX6_wellIn 8 = .ok (.iload_n 1, 1) := by decide +kernel
theorem dX6_wellIn_9 : decode cX6_wellIn 9 = .ok (.aload_n 0, 1) := by decide +kernel
theorem dX6_wellIn_10 : decode cX6_wellIn 10 = .ok (.getfield 20, 3) := by decide +kernel
theorem dX6_wellIn_13 : decode cX6_wellIn 13 = .ok (.getfield 141, 3) := by decide +kernel
theorem dX6_wellIn_16 : decode cX6_wellIn 16 = .ok (.iload_n 1, 1) := by decide +kernel
theorem dX6_wellIn_17 : decode cX6_wellIn 17 = .ok (.aaload, 1) := by decide +kernel
theorem dX6_wellIn_18 : decode cX6_wellIn 18 = .ok (.getfield 182, 3) := by decide +kernel
theorem dX6_wellIn_21 : decode cX6_wellIn 21 = .ok (.invokevirtual 243, 3) := by decide +kernel
theorem dX6_wellIn_24 : decode cX6_wellIn 24 = .ok (.ireturn, 1) := by decide +kernel
theorem dX6_bestAt_0 : decode cX6_bestAt 0 = .ok (.aload_n 0, 1) := by decide +kernel
theorem dX6_bestAt_1 : decode cX6_bestAt 1 = .ok (.iload_n 1, 1) := by decide +kernel
theorem dX6_bestAt_2 : decode cX6_bestAt 2 = .ok (.invokevirtual 138, 3) := by decide +kernel
theorem dX6_bestAt_5 : decode cX6_bestAt 5 = .ok (.aload_n 0, 1) := by decide +kernel
theorem dX6_bestAt_6 : decode cX6_bestAt 6 = .ok (.getfield 20, 3) := by decide +kernel
theorem dX6_bestAt_9 : decode cX6_bestAt 9 = .ok (.getfield 141, 3) := by decide +kernel
theorem dX6_bestAt_12 : decode cX6_bestAt 12 = .ok (.iload_n 1, 1) := by decide +kernel
theorem dX6_bestAt_13 : decode cX6_bestAt 13 = .ok (.aaload, 1) := by decide +kernel
theorem dX6_bestAt_14 : decode cX6_bestAt 14 = .ok (.getfield 145, 3) := by decide +kernel
theorem dX6_bestAt_17 : decode cX6_bestAt 17 = .ok (.istore_n 2, 1) := by decide +kernel
theorem dX6_bestAt_18 : decode cX6_bestAt 18 = .ok (.iconst (-1), 1) := by decide +kernel
theorem dX6_bestAt_19 : decode cX6_bestAt 19 = .ok (.istore_n 3, 1) := by decide +kernel
theorem dX6_bestAt_20 : decode cX6_bestAt 20 = .ok (.iconst 0, 1) := by decide +kernel
theorem dX6_bestAt_21 : decode cX6_bestAt 21 = .ok (.istore 4, 2) := by decide +kernel
theorem dX6_bestAt_23 : decode cX6_bestAt 23 = .ok (.iconst 0, 1) := by decide +kernel
theorem dX6_bestAt_24 : decode cX6_bestAt 24 = .ok (.istore 5, 2) := by decide +kernel
theorem dX6_bestAt_26 : decode cX6_bestAt 26 = .ok (.iload 5, 2) := by decide +kernel
theorem dX6_bestAt_28 : decode cX6_bestAt 28 = .ok (.iload_n 2, 1) := by decide +kernel
theorem dX6_bestAt_29 : decode cX6_bestAt 29 = .ok (.if_icmp .ge 72, 3) := by decide +kernel
theorem dX6_bestAt_32 : decode cX6_bestAt 32 = .ok (.aload_n 0, 1) := by decide +kernel
theorem dX6_bestAt_33 : decode cX6_bestAt 33 = .ok (.getfield 24, 3) := by decide +kernel
theorem dX6_bestAt_36 : decode cX6_bestAt 36 = .ok (.aload_n 0, 1) := by decide +kernel
theorem dX6_bestAt_37 : decode cX6_bestAt 37 = .ok (.getfield 20, 3) := by decide +kernel
theorem dX6_bestAt_40 : decode cX6_bestAt 40 = .ok (.invokevirtual 86, 3) := by decide +kernel
theorem dX6_bestAt_43 : decode cX6_bestAt 43 = .ok (.aload_n 0, 1) := by decide +kernel
theorem dX6_bestAt_44 : decode cX6_bestAt 44 = .ok (.getfield 24, 3) := by decide +kernel
theorem dX6_bestAt_47 : decode cX6_bestAt 47 = .ok (.getfield 141, 3) := by decide +kernel
theorem dX6_bestAt_50 : decode cX6_bestAt 50 = .ok (.iload_n 1, 1) := by decide +kernel
theorem dX6_bestAt_51 : decode cX6_bestAt 51 = .ok (.aaload, 1) := by decide +kernel
theorem dX6_bestAt_52 : decode cX6_bestAt 52 = .ok (.iload 5, 2) := by decide +kernel
theorem dX6_bestAt_54 : decode cX6_bestAt 54 = .ok (.putfield 150, 3) := by decide +kernel
theorem dX6_bestAt_57 : decode cX6_bestAt 57 = .ok (.aload_n 0, 1) := by decide +kernel
theorem dX6_bestAt_58 : decode cX6_bestAt 58 = .ok (.getfield 24, 3) := by decide +kernel
theorem dX6_bestAt_61 : decode cX6_bestAt 61 = .ok (.bipush 100, 2) := by decide +kernel
theorem dX6_bestAt_63 : decode cX6_bestAt 63 = .ok (.invokevirtual 247, 3) := by decide +kernel
theorem dX6_bestAt_66 : decode cX6_bestAt 66 = .ok (.iload_n 3, 1) := by decide +kernel
theorem dX6_bestAt_67 : decode cX6_bestAt 67 = .ok (.iconst (-1), 1) := by decide +kernel
theorem dX6_bestAt_68 : decode cX6_bestAt 68 = .ok (.if_icmp .eq 15, 3) := by decide +kernel
theorem dX6_bestAt_71 : decode cX6_bestAt 71 = .ok (.aload_n 0, 1) := by decide +kernel
theorem dX6_bestAt_72 : decode cX6_bestAt 72 = .ok (.getfield 24, 3) := by decide +kernel
theorem dX6_bestAt_75 : decode cX6_bestAt 75 = .ok (.getfield 129, 3) := by decide +kernel
theorem dX6_bestAt_78 : decode cX6_bestAt 78 = .ok (.iload 4, 2) := by decide +kernel
theorem dX6_bestAt_80 : decode cX6_bestAt 80 = .ok (.if_icmp .ge 15, 3) := by decide +kernel
theorem dX6_bestAt_83 : decode cX6_bestAt 83 = .ok (.iload 5, 2) := by decide +kernel
theorem dX6_bestAt_85 : decode cX6_bestAt 85 = .ok (.istore_n 3, 1) := by decide +kernel
theorem dX6_bestAt_86 : decode cX6_bestAt 86 = .ok (.aload_n 0, 1) := by decide +kernel
theorem dX6_bestAt_87 : decode cX6_bestAt 87 = .ok (.getfield 24, 3) := by decide +kernel
theorem dX6_bestAt_90 : decode cX6_bestAt 90 = .ok (.getfield 129, 3) := by decide +kernel
theorem dX6_bestAt_93 : decode cX6_bestAt 93 = .ok (.istore 4, 2) := by decide +kernel
theorem dX6_bestAt_95 : decode cX6_bestAt 95 = .ok (.iinc 5 1, 3) := by decide +kernel
theorem dX6_bestAt_98 : decode cX6_bestAt 98 = .ok (.goto (-72), 3) := by decide +kernel
theorem dX6_bestAt_101 : decode cX6_bestAt 101 = .ok (.iload_n 3, 1) := by decide +kernel
theorem dX6_bestAt_102 : decode cX6_bestAt 102 = .ok (.ireturn, 1) := by decide +kernel
theorem dX6_bestEvery_0 : decode cX6_bestEvery 0 = .ok (.aload_n 0, 1) := by decide +kernel
theorem dX6_bestEvery_1 : decode cX6_bestEvery 1 = .ok (.iload_n 1, 1) := by decide +kernel
theorem dX6_bestEvery_2 : decode cX6_bestEvery 2 = .ok (.invokevirtual 138, 3) := by decide +kernel
theorem dX6_bestEvery_5 : decode cX6_bestEvery 5 = .ok (.iconst 2, 1) := by decide +kernel
theorem dX6_bestEvery_6 : decode cX6_bestEvery 6 = .ok (.aload_n 0, 1) := by decide +kernel
theorem dX6_bestEvery_7 : decode cX6_bestEvery 7 = .ok (.getfield 20, 3) := by decide +kernel
theorem dX6_bestEvery_10 : decode cX6_bestEvery 10 = .ok (.getfield 141, 3) := by decide +kernel
theorem dX6_bestEvery_13 : decode cX6_bestEvery 13 = .ok (.iload_n 1, 1) := by decide +kernel
theorem dX6_bestEvery_14 : decode cX6_bestEvery 14 = .ok (.aaload, 1) := by decide +kernel
theorem dX6_bestEvery_15 : decode cX6_bestEvery 15 = .ok (.getfield 150, 3) := by decide +kernel
theorem dX6_bestEvery_18 : decode cX6_bestEvery 18 = .ok (.iconst 1, 1) := by decide +kernel
theorem dX6_bestEvery_19 : decode cX6_bestEvery 19 = .ok (.iadd, 1) := by decide +kernel
theorem dX6_bestEvery_20 : decode cX6_bestEvery 20 = .ok (.invokestatic 250, 3) := by decide +kernel
theorem dX6_bestEvery_23 : decode cX6_bestEvery 23 = .ok (.istore_n 2, 1) := by decide +kernel
theorem dX6_bestEvery_24 : decode cX6_bestEvery 24 = .ok (.iconst (-1), 1) := by decide +kernel
theorem dX6_bestEvery_25 : decode cX6_bestEvery 25 = .ok (.istore_n 3, 1) := by decide +kernel
theorem dX6_bestEvery_26 : decode cX6_bestEvery 26 = .ok (.iconst 0, 1) := by decide +kernel
theorem dX6_bestEvery_27 : decode cX6_bestEvery 27 = .ok (.istore 4, 2) := by decide +kernel
theorem dX6_bestEvery_29 : decode cX6_bestEvery 29 = .ok (.bipush 99, 2) := by decide +kernel
theorem dX6_bestEvery_31 : decode cX6_bestEvery 31 = .ok (.istore 5, 2) := by decide +kernel
theorem dX6_bestEvery_33 : decode cX6_bestEvery 33 = .ok (.iload 5, 2) := by decide +kernel
theorem dX6_bestEvery_35 : decode cX6_bestEvery 35 = .ok (.iload_n 2, 1) := by decide +kernel
theorem dX6_bestEvery_36 : decode cX6_bestEvery 36 = .ok (.if_icmp .lt 72, 3) := by decide +kernel
theorem dX6_bestEvery_39 : decode cX6_bestEvery 39 = .ok (.aload_n 0, 1) := by decide +kernel
theorem dX6_bestEvery_40 : decode cX6_bestEvery 40 = .ok (.getfield 24, 3) := by decide +kernel
theorem dX6_bestEvery_43 : decode cX6_bestEvery 43 = .ok (.aload_n 0, 1) := by decide +kernel
theorem dX6_bestEvery_44 : decode cX6_bestEvery 44 = .ok (.getfield 20, 3) := by decide +kernel
theorem dX6_bestEvery_47 : decode cX6_bestEvery 47 = .ok (.invokevirtual 86, 3) := by decide +kernel
theorem dX6_bestEvery_50 : decode cX6_bestEvery 50 = .ok (.aload_n 0, 1) := by decide +kernel
theorem dX6_bestEvery_51 : decode cX6_bestEvery 51 = .ok (.getfield 24, 3) := by decide +kernel
theorem dX6_bestEvery_54 : decode cX6_bestEvery 54 = .ok (.getfield 141, 3) := by decide +kernel
theorem dX6_bestEvery_57 : decode cX6_bestEvery 57 = .ok (.iload_n 1, 1) := by decide +kernel
theorem dX6_bestEvery_58 : decode cX6_bestEvery 58 = .ok (.aaload, 1) := by decide +kernel
theorem dX6_bestEvery_59 : decode cX6_bestEvery 59 = .ok (.iload 5, 2) := by decide +kernel
theorem dX6_bestEvery_61 : decode cX6_bestEvery 61 = .ok (.putfield 145, 3) := by decide +kernel
theorem dX6_bestEvery_64 : decode cX6_bestEvery 64 = .ok (.aload_n 0, 1) := by decide +kernel
theorem dX6_bestEvery_65 : decode cX6_bestEvery 65 = .ok (.getfield 24, 3) := by decide +kernel
theorem dX6_bestEvery_68 : decode cX6_bestEvery 68 = .ok (.bipush 100, 2) := by decide +kernel
theorem dX6_bestEvery_70 : decode cX6_bestEvery 70 = .ok (.invokevirtual 247, 3) := by decide +kernel
theorem dX6_bestEvery_73 : decode cX6_bestEvery 73 = .ok (.iload_n 3, 1) := by decide +kernel
theorem dX6_bestEvery_74 : decode cX6_bestEvery 74 = .ok (.iconst (-1), 1) := by decide +kernel
theorem dX6_bestEvery_75 : decode cX6_bestEvery 75 = .ok (.if_icmp .eq 15, 3) := by decide +kernel
theorem dX6_bestEvery_78 : decode cX6_bestEvery 78 = .ok (.aload_n 0, 1) := by decide +kernel
theorem dX6_bestEvery_79 : decode cX6_bestEvery 79 = .ok (.getfield 24, 3) := by decide +kernel
theorem dX6_bestEvery_82 : decode cX6_bestEvery 82 = .ok (.getfield 123, 3) := by decide +kernel
theorem dX6_bestEvery_85 : decode cX6_bestEvery 85 = .ok (.iload 4, 2) := by decide +kernel
theorem dX6_bestEvery_87 : decode cX6_bestEvery 87 = .ok (.if_icmp .le 15, 3) := by decide +kernel
theorem dX6_bestEvery_90 : decode cX6_bestEvery 90 = .ok (.iload 5, 2) := by decide +kernel
theorem dX6_bestEvery_92 : decode cX6_bestEvery 92 = .ok (.istore_n 3, 1) := by decide +kernel
theorem dX6_bestEvery_93 : decode cX6_bestEvery 93 = .ok (.aload_n 0, 1) := by decide +kernel
theorem dX6_bestEvery_94 : decode cX6_bestEvery 94 = .ok (.getfield 24, 3) := by decide +kernel
theorem dX6_bestEvery_97 : decode cX6_bestEvery 97 = .ok (.getfield 123, 3) := by decide +kernel
theorem dX6_bestEvery_100 : decode cX6_bestEvery 100 = .ok (.istore 4, 2) := by decide +kernel
theorem dX6_bestEvery_102 : decode cX6_bestEvery 102 = .ok (.iinc 5 (-1), 3) := by decide +kernel
theorem dX6_bestEvery_105 : decode cX6_bestEvery 105 = .ok (.goto (-72), 3) := by decide +kernel
theorem dX6_bestEvery_108 : decode cX6_bestEvery 108 = .ok (.iload_n 3, 1) := by decide +kernel
theorem dX6_bestEvery_109 : decode cX6_bestEvery 109 = .ok (.ireturn, 1) := by decide +kernel
theorem dX6_tryAhead_0 : decode cX6_tryAhead 0 = .ok (.aload_n 0, 1) := by decide +kernel
theorem dX6_tryAhead_1 : decode cX6_tryAhead 1 = .ok (.getfield 24, 3) := by decide +kernel
theorem dX6_tryAhead_4 : decode cX6_tryAhead 4 = .ok (.aload_n 0, 1) := by decide +kernel
theorem dX6_tryAhead_5 : decode cX6_tryAhead 5 = .ok (.getfield 20, 3) := by decide +kernel
theorem dX6_tryAhead_8 : decode cX6_tryAhead 8 = .ok (.invokevirtual 86, 3) := by decide +kernel
theorem dX6_tryAhead_11 : decode cX6_tryAhead 11 = .ok (.aload_n 0, 1) := by decide +kernel
theorem dX6_tryAhead_12 : decode cX6_tryAhead 12 = .ok (.getfield 24, 3) := by decide +kernel
theorem dX6_tryAhead_15 : decode cX6_tryAhead 15 = .ok (.iload_n 1, 1) := by decide +kernel
theorem dX6_tryAhead_16 : decode cX6_tryAhead 16 = .ok (.invokevirtual 247, 3) := by decide +kernel
theorem dX6_tryAhead_19 : decode cX6_tryAhead 19 = .ok (.return_, 1) := by decide +kernel
theorem dX6_slotsUntil_0 : decode cX6_slotsUntil 0 = .ok (.aload_n 0, 1) := by decide +kernel
theorem dX6_slotsUntil_1 : decode cX6_slotsUntil 1 = .ok (.iload_n 2, 1) := by decide +kernel
theorem dX6_slotsUntil_2 : decode cX6_slotsUntil 2 = .ok (.invokevirtual 240, 3) := by decide +kernel
theorem dX6_slotsUntil_5 : decode cX6_slotsUntil 5 = .ok (.iload_n 2, 1) := by decide +kernel
theorem dX6_slotsUntil_6 : decode cX6_slotsUntil 6 = .ok (.istore 5, 2) := by decide +kernel
theorem dX6_slotsUntil_8 : decode cX6_slotsUntil 8 = .ok (.iload 5, 2) := by decide +kernel
theorem dX6_slotsUntil_10 : decode cX6_slotsUntil 10 = .ok (.sipush 300, 3) := by decide +kernel
theorem dX6_slotsUntil_13 : decode cX6_slotsUntil 13 = .ok (.if_icmp .gt 31, 3) := by decide +kernel
theorem dX6_slotsUntil_16 : decode cX6_slotsUntil 16 = .ok (.aload_n 0, 1) := by decide +kernel
theorem dX6_slotsUntil_17 : decode cX6_slotsUntil 17 = .ok (.iload_n 1, 1) := by decide +kernel
theorem dX6_slotsUntil_18 : decode cX6_slotsUntil 18 = .ok (.iload_n 3, 1) := by decide +kernel
theorem dX6_slotsUntil_19 : decode cX6_slotsUntil 19 = .ok (.iload 4, 2) := by decide +kernel
theorem dX6_slotsUntil_21 : decode cX6_slotsUntil 21 = .ok (.invokevirtual 256, 3) := by decide +kernel
theorem dX6_slotsUntil_24 : decode cX6_slotsUntil 24 = .ok (.ifCond .eq 6, 3) := by decide +kernel
theorem dX6_slotsUntil_27 : decode cX6_slotsUntil 27 = .ok (.iload 5, 2) := by decide +kernel
theorem dX6_slotsUntil_29 : decode cX6_slotsUntil 29 = .ok (.ireturn, 1) := by decide +kernel
theorem dX6_slotsUntil_30 : decode cX6_slotsUntil 30 = .ok (.aload_n 0, 1) := by decide +kernel
theorem dX6_slotsUntil_31 : decode cX6_slotsUntil 31 = .ok (.getfield 24, 3) := by decide +kernel
theorem dX6_slotsUntil_34 : decode cX6_slotsUntil 34 = .ok (.iconst 1, 1) := by decide +kernel
theorem dX6_slotsUntil_35 : decode cX6_slotsUntil 35 = .ok (.invokevirtual 247, 3) := by decide +kernel
theorem dX6_slotsUntil_38 : decode cX6_slotsUntil 38 = .ok (.iinc 5 1, 3) := by decide +kernel
theorem dX6_slotsUntil_41 : decode cX6_slotsUntil 41 = .ok (.goto (-33), 3) := by decide +kernel
theorem dX6_slotsUntil_44 : decode cX6_slotsUntil 44 = .ok (.iconst (-1), 1) := by decide +kernel
theorem dX6_slotsUntil_45 : decode cX6_slotsUntil 45 = .ok (.ireturn, 1) := by decide +kernel
theorem dX6_hasCome_0 : decode cX6_hasCome 0 = .ok (.aload_n 0, 1) := by decide +kernel
theorem dX6_hasCome_1 : decode cX6_hasCome 1 = .ok (.getfield 24, 3) := by decide +kernel
theorem dX6_hasCome_4 : decode cX6_hasCome 4 = .ok (.getfield 141, 3) := by decide +kernel
theorem dX6_hasCome_7 : decode cX6_hasCome 7 = .ok (.iload_n 2, 1) := by decide +kernel
theorem dX6_hasCome_8 : decode cX6_hasCome 8 = .ok (.aaload, 1) := by decide +kernel
theorem dX6_hasCome_9 : decode cX6_hasCome 9 = .ok (.astore 4, 2) := by decide +kernel
theorem dX6_hasCome_11 : decode cX6_hasCome 11 = .ok (.iload_n 1, 1) := by decide +kernel
theorem dX6_hasCome_12 : decode cX6_hasCome 12 = .ok (.tableswitch 81 0 3 #[32, 46, 54, 69], 32) := by decide +kernel
theorem dX6_hasCome_44 : decode cX6_hasCome 44 = .ok (.aload_n 0, 1) := by decide +kernel
theorem dX6_hasCome_45 : decode cX6_hasCome 45 = .ok (.getfield 24, 3) := by decide +kernel
theorem dX6_hasCome_48 : decode cX6_hasCome 48 = .ok (.aload 4, 2) := by decide +kernel
theorem dX6_hasCome_50 : decode cX6_hasCome 50 = .ok (.invokevirtual 178, 3) := by decide +kernel
theorem dX6_hasCome_53 : decode cX6_hasCome 53 = .ok (.iload_n 3, 1) := by decide +kernel
theorem dX6_hasCome_54 : decode cX6_hasCome 54 = .ok (.invokestatic 205, 3) := by decide +kernel
theorem dX6_hasCome_57 : decode cX6_hasCome 57 = .ok (.ireturn, 1) := by decide +kernel
theorem dX6_hasCome_58 : decode cX6_hasCome 58 = .ok (.aload_n 0, 1) := by decide +kernel
theorem dX6_hasCome_59 : decode cX6_hasCome 59 = .ok (.getfield 24, 3) := by decide +kernel
theorem dX6_hasCome_62 : decode cX6_hasCome 62 = .ok (.invokevirtual 260, 3) := by decide +kernel
theorem dX6_hasCome_65 : decode cX6_hasCome 65 = .ok (.ireturn, 1) := by decide +kernel
theorem dX6_hasCome_66 : decode cX6_hasCome 66 = .ok (.aload 4, 2) := by decide +kernel
theorem dX6_hasCome_68 : decode cX6_hasCome 68 = .ok (.getfield 162, 3) := by decide +kernel
theorem dX6_hasCome_71 : decode cX6_hasCome 71 = .ok (.iconst 4, 1) := by decide +kernel
theorem dX6_hasCome_72 : decode cX6_hasCome 72 = .ok (.if_icmp .ne 7, 3) := by decide +kernel
theorem dX6_hasCome_75 : decode cX6_hasCome 75 = .ok (.iconst 1, 1) := by decide +kernel
theorem dX6_hasCome_76 : decode cX6_hasCome 76 = .ok (.goto 4, 3) := by decide +kernel
theorem dX6_hasCome_79 : decode cX6_hasCome 79 = .ok (.iconst 0, 1) := by decide +kernel
theorem dX6_hasCome_80 : decode cX6_hasCome 80 = .ok (.ireturn, 1) := by decide +kernel
theorem dX6_hasCome_81 : decode cX6_hasCome 81 = .ok (.aload_n 0, 1) := by decide +kernel
theorem dX6_hasCome_82 : decode cX6_hasCome 82 = .ok (.getfield 24, 3) := by decide +kernel
theorem dX6_hasCome_85 : decode cX6_hasCome 85 = .ok (.getfield 263, 3) := by decide +kernel
theorem dX6_hasCome_88 : decode cX6_hasCome 88 = .ok (.iload_n 2, 1) := by decide +kernel
theorem dX6_hasCome_89 : decode cX6_hasCome 89 = .ok (.invokestatic 205, 3) := by decide +kernel
theorem dX6_hasCome_92 : decode cX6_hasCome 92 = .ok (.ireturn, 1) := by decide +kernel
theorem dX6_hasCome_93 : decode cX6_hasCome 93 = .ok (.aload 4, 2) := by decide +kernel
theorem dX6_hasCome_95 : decode cX6_hasCome 95 = .ok (.getfield 182, 3) := by decide +kernel
theorem dX6_hasCome_98 : decode cX6_hasCome 98 = .ok (.iload_n 3, 1) := by decide +kernel
theorem dX6_hasCome_99 : decode cX6_hasCome 99 = .ok (.if_icmp .le 7, 3) := by decide +kernel
theorem dX6_hasCome_102 : decode cX6_hasCome 102 = .ok (.iconst 1, 1) := by decide +kernel
theorem dX6_hasCome_103 : decode cX6_hasCome 103 = .ok (.goto 4, 3) := by decide +kernel
theorem dX6_hasCome_106 : decode cX6_hasCome 106 = .ok (.iconst 0, 1) := by decide +kernel
theorem dX6_hasCome_107 : decode cX6_hasCome 107 = .ok (.ireturn, 1) := by decide +kernel
theorem dX6_run_0 : decode cX6_run 0 = .ok (.iload_n 1, 1) := by decide +kernel
theorem dX6_run_1 : decode cX6_run 1 = .ok (.iconst 1, 1) := by decide +kernel
theorem dX6_run_2 : decode cX6_run 2 = .ok (.if_icmp .lt 9, 3) := by decide +kernel
theorem dX6_run_5 : decode cX6_run 5 = .ok (.iload_n 1, 1) := by decide +kernel
theorem dX6_run_6 : decode cX6_run 6 = .ok (.bipush 99, 2) := by decide +kernel
theorem dX6_run_8 : decode cX6_run 8 = .ok (.if_icmp .le 11, 3) := by decide +kernel
theorem dX6_run_11 : decode cX6_run 11 = .ok (.new 65, 3) := by decide +kernel
theorem dX6_run_14 : decode cX6_run 14 = .ok (.dup, 1) := by decide +kernel
theorem dX6_run_15 : decode cX6_run 15 = .ok (.invokespecial 67, 3) := by decide +kernel
theorem dX6_run_18 : decode cX6_run 18 = .ok (.athrow, 1) := by decide +kernel
theorem dX6_run_19 : decode cX6_run 19 = .ok (.aload_n 0, 1) := by decide +kernel
theorem dX6_run_20 : decode cX6_run 20 = .ok (.getfield 20, 3) := by decide +kernel
theorem dX6_run_23 : decode cX6_run 23 = .ok (.iload_n 1, 1) := by decide +kernel
theorem dX6_run_24 : decode cX6_run 24 = .ok (.invokevirtual 266, 3) := by decide +kernel
theorem dX6_run_27 : decode cX6_run 27 = .ok (.ifCond .ne 11, 3) := by decide +kernel
theorem dX6_run_30 : decode cX6_run 30 = .ok (.new 58, 3) := by decide +kernel
theorem dX6_run_33 : decode cX6_run 33 = .ok (.dup, 1) := by decide +kernel
theorem dX6_run_34 : decode cX6_run 34 = .ok (.invokespecial 60, 3) := by decide +kernel
theorem dX6_run_37 : decode cX6_run 37 = .ok (.athrow, 1) := by decide +kernel
theorem dX6_run_38 : decode cX6_run 38 = .ok (.aload_n 0, 1) := by decide +kernel
theorem dX6_run_39 : decode cX6_run 39 = .ok (.invokevirtual 98, 3) := by decide +kernel
theorem dX6_run_42 : decode cX6_run 42 = .ok (.aload_n 0, 1) := by decide +kernel
theorem dX6_run_43 : decode cX6_run 43 = .ok (.getfield 20, 3) := by decide +kernel
theorem dX6_run_46 : decode cX6_run 46 = .ok (.getfield 123, 3) := by decide +kernel
theorem dX6_run_49 : decode cX6_run 49 = .ok (.istore_n 2, 1) := by decide +kernel
theorem dX6_run_50 : decode cX6_run 50 = .ok (.aload_n 0, 1) := by decide +kernel
theorem dX6_run_51 : decode cX6_run 51 = .ok (.getfield 20, 3) := by decide +kernel
theorem dX6_run_54 : decode cX6_run 54 = .ok (.iload_n 1, 1) := by decide +kernel
theorem dX6_run_55 : decode cX6_run 55 = .ok (.invokevirtual 247, 3) := by decide +kernel
theorem dX6_run_58 : decode cX6_run 58 = .ok (.aload_n 0, 1) := by decide +kernel
theorem dX6_run_59 : decode cX6_run 59 = .ok (.getfield 20, 3) := by decide +kernel
theorem dX6_run_62 : decode cX6_run 62 = .ok (.getfield 123, 3) := by decide +kernel
theorem dX6_run_65 : decode cX6_run 65 = .ok (.iload_n 2, 1) := by decide +kernel
theorem dX6_run_66 : decode cX6_run 66 = .ok (.isub, 1) := by decide +kernel
theorem dX6_run_67 : decode cX6_run 67 = .ok (.ireturn, 1) := by decide +kernel
theorem dX6_wake_0 : decode cX6_wake 0 = .ok (.aload_n 0, 1) := by decide +kernel
theorem dX6_wake_1 : decode cX6_wake 1 = .ok (.iload_n 1, 1) := by decide +kernel
theorem dX6_wake_2 : decode cX6_wake 2 = .ok (.invokevirtual 138, 3) := by decide +kernel
theorem dX6_wake_5 : decode cX6_wake 5 = .ok (.aload_n 0, 1) := by decide +kernel
theorem dX6_wake_6 : decode cX6_wake 6 = .ok (.getfield 20, 3) := by decide +kernel
theorem dX6_wake_9 : decode cX6_wake 9 = .ok (.getfield 141, 3) := by decide +kernel
theorem dX6_wake_12 : decode cX6_wake 12 = .ok (.iload_n 1, 1) := by decide +kernel
theorem dX6_wake_13 : decode cX6_wake 13 = .ok (.aaload, 1) := by decide +kernel
theorem dX6_wake_14 : decode cX6_wake 14 = .ok (.getfield 162, 3) := by decide +kernel
theorem dX6_wake_17 : decode cX6_wake 17 = .ok (.ifCond .eq 11, 3) := by decide +kernel
theorem dX6_wake_20 : decode cX6_wake 20 = .ok (.new 58, 3) := by decide +kernel
theorem dX6_wake_23 : decode cX6_wake 23 = .ok (.dup, 1) := by decide +kernel
theorem dX6_wake_24 : decode cX6_wake 24 = .ok (.invokespecial 60, 3) := by decide +kernel
theorem dX6_wake_27 : decode cX6_wake 27 = .ok (.athrow, 1) := by decide +kernel
theorem dX6_wake_28 : decode cX6_wake 28 = .ok (.aload_n 0, 1) := by decide +kernel
theorem dX6_wake_29 : decode cX6_wake 29 = .ok (.invokevirtual 98, 3) := by decide +kernel
theorem dX6_wake_32 : decode cX6_wake 32 = .ok (.aload_n 0, 1) := by decide +kernel
theorem dX6_wake_33 : decode cX6_wake 33 = .ok (.getfield 20, 3) := by decide +kernel
theorem dX6_wake_36 : decode cX6_wake 36 = .ok (.getfield 141, 3) := by decide +kernel
theorem dX6_wake_39 : decode cX6_wake 39 = .ok (.iload_n 1, 1) := by decide +kernel
theorem dX6_wake_40 : decode cX6_wake 40 = .ok (.aaload, 1) := by decide +kernel
theorem dX6_wake_41 : decode cX6_wake 41 = .ok (.invokevirtual 270, 3) := by decide +kernel
theorem dX6_wake_44 : decode cX6_wake 44 = .ok (.aload_n 0, 1) := by decide +kernel
theorem dX6_wake_45 : decode cX6_wake 45 = .ok (.getfield 20, 3) := by decide +kernel
theorem dX6_wake_48 : decode cX6_wake 48 = .ok (.getfield 114, 3) := by decide +kernel
theorem dX6_wake_51 : decode cX6_wake 51 = .ok (.ireturn, 1) := by decide +kernel
theorem dX6_setEvery_0 : decode cX6_setEvery 0 = .ok (.aload_n 0, 1) := by decide +kernel
theorem dX6_setEvery_1 : decode cX6_setEvery 1 = .ok (.iload_n 1, 1) := by decide +kernel
theorem dX6_setEvery_2 : decode cX6_setEvery 2 = .ok (.invokevirtual 138, 3) := by decide +kernel
theorem dX6_setEvery_5 : decode cX6_setEvery 5 = .ok (.aload_n 0, 1) := by decide +kernel
theorem dX6_setEvery_6 : decode cX6_setEvery 6 = .ok (.getfield 20, 3) := by decide +kernel
theorem dX6_setEvery_9 : decode cX6_setEvery 9 = .ok (.getfield 141, 3) := by decide +kernel
theorem dX6_setEvery_12 : decode cX6_setEvery 12 = .ok (.iload_n 1, 1) := by decide +kernel
theorem dX6_setEvery_13 : decode cX6_setEvery 13 = .ok (.aaload, 1) := by decide +kernel
theorem dX6_setEvery_14 : decode cX6_setEvery 14 = .ok (.astore_n 3, 1) := by decide +kernel
theorem dX6_setEvery_15 : decode cX6_setEvery 15 = .ok (.aload_n 3, 1) := by decide +kernel
theorem dX6_setEvery_16 : decode cX6_setEvery 16 = .ok (.iload_n 2, 1) := by decide +kernel
theorem dX6_setEvery_17 : decode cX6_setEvery 17 = .ok (.invokevirtual 273, 3) := by decide +kernel
theorem dX6_setEvery_20 : decode cX6_setEvery 20 = .ok (.ifCond .ne 11, 3) := by decide +kernel
theorem dX6_setEvery_23 : decode cX6_setEvery 23 = .ok (.new 65, 3) := by decide +kernel
theorem dX6_setEvery_26 : decode cX6_setEvery 26 = .ok (.dup, 1) := by decide +kernel
theorem dX6_setEvery_27 : decode cX6_setEvery 27 = .ok (.invokespecial 67, 3) := by decide +kernel
theorem dX6_setEvery_30 : decode cX6_setEvery 30 = .ok (.athrow, 1) := by decide +kernel
theorem dX6_setEvery_31 : decode cX6_setEvery 31 = .ok (.aload_n 0, 1) := by decide +kernel
theorem dX6_setEvery_32 : decode cX6_setEvery 32 = .ok (.invokevirtual 98, 3) := by decide +kernel
theorem dX6_setEvery_35 : decode cX6_setEvery 35 = .ok (.aload_n 3, 1) := by decide +kernel
theorem dX6_setEvery_36 : decode cX6_setEvery 36 = .ok (.getfield 145, 3) := by decide +kernel
theorem dX6_setEvery_39 : decode cX6_setEvery 39 = .ok (.istore 4, 2) := by decide +kernel
theorem dX6_setEvery_41 : decode cX6_setEvery 41 = .ok (.aload_n 3, 1) := by decide +kernel
theorem dX6_setEvery_42 : decode cX6_setEvery 42 = .ok (.iload_n 2, 1) := by decide +kernel
theorem dX6_setEvery_43 : decode cX6_setEvery 43 = .ok (.putfield 145, 3) := by decide +kernel
theorem dX6_setEvery_46 : decode cX6_setEvery 46 = .ok (.iload 4, 2) := by decide +kernel
theorem dX6_setEvery_48 : decode cX6_setEvery 48 = .ok (.ireturn, 1) := by decide +kernel
theorem dX6_setAt_0 : decode cX6_setAt 0 = .ok (.aload_n 0, 1) := by decide +kernel
theorem dX6_setAt_1 : decode cX6_setAt 1 = .ok (.iload_n 1, 1) := by decide +kernel
theorem dX6_setAt_2 : decode cX6_setAt 2 = .ok (.invokevirtual 138, 3) := by decide +kernel
theorem dX6_setAt_5 : decode cX6_setAt 5 = .ok (.aload_n 0, 1) := by decide +kernel
theorem dX6_setAt_6 : decode cX6_setAt 6 = .ok (.getfield 20, 3) := by decide +kernel
theorem dX6_setAt_9 : decode cX6_setAt 9 = .ok (.getfield 141, 3) := by decide +kernel
theorem dX6_setAt_12 : decode cX6_setAt 12 = .ok (.iload_n 1, 1) := by decide +kernel
theorem dX6_setAt_13 : decode cX6_setAt 13 = .ok (.aaload, 1) := by decide +kernel
theorem dX6_setAt_14 : decode cX6_setAt 14 = .ok (.astore_n 3, 1) := by decide +kernel
theorem dX6_setAt_15 : decode cX6_setAt 15 = .ok (.aload_n 3, 1) := by decide +kernel
theorem dX6_setAt_16 : decode cX6_setAt 16 = .ok (.iload_n 2, 1) := by decide +kernel
theorem dX6_setAt_17 : decode cX6_setAt 17 = .ok (.invokevirtual 276, 3) := by decide +kernel
theorem dX6_setAt_20 : decode cX6_setAt 20 = .ok (.ifCond .ne 11, 3) := by decide +kernel
theorem dX6_setAt_23 : decode cX6_setAt 23 = .ok (.new 65, 3) := by decide +kernel
theorem dX6_setAt_26 : decode cX6_setAt 26 = .ok (.dup, 1) := by decide +kernel
theorem dX6_setAt_27 : decode cX6_setAt 27 = .ok (.invokespecial 67, 3) := by decide +kernel
theorem dX6_setAt_30 : decode cX6_setAt 30 = .ok (.athrow, 1) := by decide +kernel
theorem dX6_setAt_31 : decode cX6_setAt 31 = .ok (.aload_n 0, 1) := by decide +kernel
theorem dX6_setAt_32 : decode cX6_setAt 32 = .ok (.invokevirtual 98, 3) := by decide +kernel
theorem dX6_setAt_35 : decode cX6_setAt 35 = .ok (.aload_n 3, 1) := by decide +kernel
theorem dX6_setAt_36 : decode cX6_setAt 36 = .ok (.getfield 150, 3) := by decide +kernel
theorem dX6_setAt_39 : decode cX6_setAt 39 = .ok (.istore 4, 2) := by decide +kernel
theorem dX6_setAt_41 : decode cX6_setAt 41 = .ok (.aload_n 3, 1) := by decide +kernel
theorem dX6_setAt_42 : decode cX6_setAt 42 = .ok (.iload_n 2, 1) := by decide +kernel
theorem dX6_setAt_43 : decode cX6_setAt 43 = .ok (.putfield 150, 3) := by decide +kernel
theorem dX6_setAt_46 : decode cX6_setAt 46 = .ok (.iload 4, 2) := by decide +kernel
theorem dX6_setAt_48 : decode cX6_setAt 48 = .ok (.ireturn, 1) := by decide +kernel
theorem dX6_charge_0 : decode cX6_charge 0 = .ok (.aload_n 0, 1) := by decide +kernel
theorem dX6_charge_1 : decode cX6_charge 1 = .ok (.iload_n 1, 1) := by decide +kernel
theorem dX6_charge_2 : decode cX6_charge 2 = .ok (.invokevirtual 138, 3) := by decide +kernel
theorem dX6_charge_5 : decode cX6_charge 5 = .ok (.iload_n 2, 1) := by decide +kernel
theorem dX6_charge_6 : decode cX6_charge 6 = .ok (.invokestatic 279, 3) := by decide +kernel
theorem dX6_charge_9 : decode cX6_charge 9 = .ok (.ifCond .ne 11, 3) := by decide +kernel
theorem dX6_charge_12 : decode cX6_charge 12 = .ok (.new 65, 3) := by decide +kernel
theorem dX6_charge_15 : decode cX6_charge 15 = .ok (.dup, 1) := by decide +kernel
theorem dX6_charge_16 : decode cX6_charge 16 = .ok (.invokespecial 67, 3) := by decide +kernel
theorem dX6_charge_19 : decode cX6_charge 19 = .ok (.athrow, 1) := by decide +kernel
theorem dX6_charge_20 : decode cX6_charge 20 = .ok (.aload_n 0, 1) := by decide +kernel
theorem dX6_charge_21 : decode cX6_charge 21 = .ok (.invokevirtual 98, 3) := by decide +kernel
theorem dX6_charge_24 : decode cX6_charge 24 = .ok (.aload_n 0, 1) := by decide +kernel
theorem dX6_charge_25 : decode cX6_charge 25 = .ok (.getfield 20, 3) := by decide +kernel
theorem dX6_charge_28 : decode cX6_charge 28 = .ok (.getfield 141, 3) := by decide +kernel
theorem dX6_charge_31 : decode cX6_charge 31 = .ok (.iload_n 1, 1) := by decide +kernel
theorem dX6_charge_32 : decode cX6_charge 32 = .ok (.aaload, 1) := by decide +kernel
theorem dX6_charge_33 : decode cX6_charge 33 = .ok (.iload_n 2, 1) := by decide +kernel
theorem dX6_charge_34 : decode cX6_charge 34 = .ok (.invokevirtual 282, 3) := by decide +kernel
theorem dX6_charge_37 : decode cX6_charge 37 = .ok (.aload_n 0, 1) := by decide +kernel
theorem dX6_charge_38 : decode cX6_charge 38 = .ok (.getfield 20, 3) := by decide +kernel
theorem dX6_charge_41 : decode cX6_charge 41 = .ok (.getfield 141, 3) := by decide +kernel
theorem dX6_charge_44 : decode cX6_charge 44 = .ok (.iload_n 1, 1) := by decide +kernel
theorem dX6_charge_45 : decode cX6_charge 45 = .ok (.aaload, 1) := by decide +kernel
theorem dX6_charge_46 : decode cX6_charge 46 = .ok (.getfield 159, 3) := by decide +kernel
theorem dX6_charge_49 : decode cX6_charge 49 = .ok (.ireturn, 1) := by decide +kernel
theorem dX6_setNear_0 : decode cX6_setNear 0 = .ok (.aload_n 0, 1) := by decide +kernel
theorem dX6_setNear_1 : decode cX6_setNear 1 = .ok (.iload_n 1, 1) := by decide +kernel
theorem dX6_setNear_2 : decode cX6_setNear 2 = .ok (.invokevirtual 138, 3) := by decide +kernel
theorem dX6_setNear_5 : decode cX6_setNear 5 = .ok (.aload_n 0, 1) := by decide +kernel
theorem dX6_setNear_6 : decode cX6_setNear 6 = .ok (.iload_n 2, 1) := by decide +kernel
theorem dX6_setNear_7 : decode cX6_setNear 7 = .ok (.invokevirtual 138, 3) := by decide +kernel
theorem dX6_setNear_10 : decode cX6_setNear 10 = .ok (.iload_n 1, 1) := by decide +kernel
theorem dX6_setNear_11 : decode cX6_setNear 11 = .ok (.iload_n 2, 1) := by decide +kernel
theorem dX6_setNear_12 : decode cX6_setNear 12 = .ok (.if_icmp .ne 11, 3) := by decide +kernel
theorem dX6_setNear_15 : decode cX6_setNear 15 = .ok (.new 65, 3) := by decide +kernel
theorem dX6_setNear_18 : decode cX6_setNear 18 = .ok (.dup, 1) := by decide +kernel
theorem dX6_setNear_19 : decode cX6_setNear 19 = .ok (.invokespecial 67, 3) := by decide +kernel
theorem dX6_setNear_22 : decode cX6_setNear 22 = .ok (.athrow, 1) := by decide +kernel
theorem dX6_setNear_23 : decode cX6_setNear 23 = .ok (.aload_n 0, 1) := by decide +kernel
theorem dX6_setNear_24 : decode cX6_setNear 24 = .ok (.getfield 20, 3) := by decide +kernel
theorem dX6_setNear_27 : decode cX6_setNear 27 = .ok (.getfield 141, 3) := by decide +kernel
theorem dX6_setNear_30 : decode cX6_setNear 30 = .ok (.iload_n 1, 1) := by decide +kernel
theorem dX6_setNear_31 : decode cX6_setNear 31 = .ok (.aaload, 1) := by decide +kernel
theorem dX6_setNear_32 : decode cX6_setNear 32 = .ok (.getfield 175, 3) := by decide +kernel
theorem dX6_setNear_35 : decode cX6_setNear 35 = .ok (.iload_n 2, 1) := by decide +kernel
theorem dX6_setNear_36 : decode cX6_setNear 36 = .ok (.invokestatic 205, 3) := by decide +kernel
theorem dX6_setNear_39 : decode cX6_setNear 39 = .ok (.iload_n 3, 1) := by decide +kernel
theorem dX6_setNear_40 : decode cX6_setNear 40 = .ok (.if_icmp .ne 5, 3) := by decide +kernel
theorem dX6_setNear_43 : decode cX6_setNear 43 = .ok (.iconst 0, 1) := by decide +kernel
theorem dX6_setNear_44 : decode cX6_setNear 44 = .ok (.ireturn, 1) := by decide +kernel
theorem dX6_setNear_45 : decode cX6_setNear 45 = .ok (.aload_n 0, 1) := by decide +kernel
theorem dX6_setNear_46 : decode cX6_setNear 46 = .ok (.invokevirtual 98, 3) := by decide +kernel
theorem dX6_setNear_49 : decode cX6_setNear 49 = .ok (.aload_n 0, 1) := by decide +kernel
theorem dX6_setNear_50 : decode cX6_setNear 50 = .ok (.getfield 20, 3) := by decide +kernel
theorem dX6_setNear_53 : decode cX6_setNear 53 = .ok (.iload_n 1, 1) := by decide +kernel
theorem dX6_setNear_54 : decode cX6_setNear 54 = .ok (.iload_n 2, 1) := by decide +kernel
theorem dX6_setNear_55 : decode cX6_setNear 55 = .ok (.invokevirtual 285, 3) := by decide +kernel
theorem dX6_setNear_58 : decode cX6_setNear 58 = .ok (.iconst 1, 1) := by decide +kernel
theorem dX6_setNear_59 : decode cX6_setNear 59 = .ok (.ireturn, 1) := by decide +kernel
theorem dX6_setTries_0 : decode cX6_setTries 0 = .ok (.iload_n 1, 1) := by decide +kernel
theorem dX6_setTries_1 : decode cX6_setTries 1 = .ok (.iconst 1, 1) := by decide +kernel
theorem dX6_setTries_2 : decode cX6_setTries 2 = .ok (.if_icmp .lt 9, 3) := by decide +kernel
theorem dX6_setTries_5 : decode cX6_setTries 5 = .ok (.iload_n 1, 1) := by decide +kernel
theorem dX6_setTries_6 : decode cX6_setTries 6 = .ok (.bipush 9, 2) := by decide +kernel
theorem dX6_setTries_8 : decode cX6_setTries 8 = .ok (.if_icmp .le 11, 3) := by decide +kernel
theorem dX6_setTries_11 : decode cX6_setTries 11 = .ok (.new 65, 3) := by decide +kernel
theorem dX6_setTries_14 : decode cX6_setTries 14 = .ok (.dup, 1) := by decide +kernel
theorem dX6_setTries_15 : decode cX6_setTries 15 = .ok (.invokespecial 67, 3) := by decide +kernel
theorem dX6_setTries_18 : decode cX6_setTries 18 = .ok (.athrow, 1) := by decide +kernel
theorem dX6_setTries_19 : decode cX6_setTries 19 = .ok (.aload_n 0, 1) := by decide +kernel
theorem dX6_setTries_20 : decode cX6_setTries 20 = .ok (.invokevirtual 98, 3) := by decide +kernel
theorem dX6_setTries_23 : decode cX6_setTries 23 = .ok (.aload_n 0, 1) := by decide +kernel
theorem dX6_setTries_24 : decode cX6_setTries 24 = .ok (.getfield 20, 3) := by decide +kernel
theorem dX6_setTries_27 : decode cX6_setTries 27 = .ok (.getfield 117, 3) := by decide +kernel
theorem dX6_setTries_30 : decode cX6_setTries 30 = .ok (.istore_n 2, 1) := by decide +kernel
theorem dX6_setTries_31 : decode cX6_setTries 31 = .ok (.aload_n 0, 1) := by decide +kernel
theorem dX6_setTries_32 : decode cX6_setTries 32 = .ok (.getfield 20, 3) := by decide +kernel
theorem dX6_setTries_35 : decode cX6_setTries 35 = .ok (.iload_n 1, 1) := by decide +kernel
theorem dX6_setTries_36 : decode cX6_setTries 36 = .ok (.putfield 117, 3) := by decide +kernel
theorem dX6_setTries_39 : decode cX6_setTries 39 = .ok (.iload_n 2, 1) := by decide +kernel
theorem dX6_setTries_40 : decode cX6_setTries 40 = .ok (.ireturn, 1) := by decide +kernel
theorem dX6_report_0 : decode cX6_report 0 = .ok (.aload_n 0, 1) := by decide +kernel
theorem dX6_report_1 : decode cX6_report 1 = .ok (.getfield 37, 3) := by decide +kernel
theorem dX6_report_4 : decode cX6_report 4 = .ok (.invokevirtual 289, 3) := by decide +kernel
theorem dX6_report_7 : decode cX6_report 7 = .ok (.iconst 0, 1) := by decide +kernel
theorem dX6_report_8 : decode cX6_report 8 = .ok (.istore_n 1, 1) := by decide +kernel
theorem dX6_report_9 : decode cX6_report 9 = .ok (.iload_n 1, 1) := by decide +kernel
theorem dX6_report_10 : decode cX6_report 10 = .ok (.aload_n 0, 1) := by decide +kernel
theorem dX6_report_11 : decode cX6_report 11 = .ok (.getfield 20, 3) := by decide +kernel
theorem dX6_report_14 : decode cX6_report 14 = .ok (.getfield 93, 3) := by decide +kernel
theorem dX6_report_17 : decode cX6_report 17 = .ok (.if_icmp .ge 29, 3) := by decide +kernel
theorem dX6_report_20 : decode cX6_report 20 = .ok (.aload_n 0, 1) := by decide +kernel
theorem dX6_report_21 : decode cX6_report 21 = .ok (.getfield 37, 3) := by decide +kernel
theorem dX6_report_24 : decode cX6_report 24 = .ok (.aload_n 0, 1) := by decide +kernel
theorem dX6_report_25 : decode cX6_report 25 = .ok (.getfield 20, 3) := by decide +kernel
theorem dX6_report_28 : decode cX6_report 28 = .ok (.aload_n 0, 1) := by decide +kernel
theorem dX6_report_29 : decode cX6_report 29 = .ok (.getfield 20, 3) := by decide +kernel
theorem dX6_report_32 : decode cX6_report 32 = .ok (.getfield 141, 3) := by decide +kernel
theorem dX6_report_35 : decode cX6_report 35 = .ok (.iload_n 1, 1) := by decide +kernel
theorem dX6_report_36 : decode cX6_report 36 = .ok (.aaload, 1) := by decide +kernel
theorem dX6_report_37 : decode cX6_report 37 = .ok (.invokevirtual 292, 3) := by decide +kernel
theorem dX6_report_40 : decode cX6_report 40 = .ok (.iinc 1 1, 3) := by decide +kernel
theorem dX6_report_43 : decode cX6_report 43 = .ok (.goto (-34), 3) := by decide +kernel
theorem dX6_report_46 : decode cX6_report 46 = .ok (.aload_n 0, 1) := by decide +kernel
theorem dX6_report_47 : decode cX6_report 47 = .ok (.getfield 37, 3) := by decide +kernel
theorem dX6_report_50 : decode cX6_report 50 = .ok (.getfield 296, 3) := by decide +kernel
theorem dX6_report_53 : decode cX6_report 53 = .ok (.ireturn, 1) := by decide +kernel
theorem dX6_reportByte_0 : decode cX6_reportByte 0 = .ok (.iload_n 1, 1) := by decide +kernel
theorem dX6_reportByte_1 : decode cX6_reportByte 1 = .ok (.ifCond .lt 14, 3) := by decide +kernel
theorem dX6_reportByte_4 : decode cX6_reportByte 4 = .ok (.iload_n 1, 1) := by decide +kernel
theorem dX6_reportByte_5 : decode cX6_reportByte 5 = .ok (.aload_n 0, 1) := by decide +kernel
theorem dX6_reportByte_6 : decode cX6_reportByte 6 = .ok (.getfield 37, 3) := by decide +kernel
theorem dX6_reportByte_9 : decode cX6_reportByte 9 = .ok (.getfield 296, 3) := by decide +kernel
theorem dX6_reportByte_12 : decode cX6_reportByte 12 = .ok (.if_icmp .lt 11, 3) := by decide +kernel
theorem dX6_reportByte_15 : decode cX6_reportByte 15 = .ok (.new 299, 3) := by decide +kernel
theorem dX6_reportByte_18 : decode cX6_reportByte 18 = .ok (.dup, 1) := by decide +kernel
theorem dX6_reportByte_19 : decode cX6_reportByte 19 = .ok (.invokespecial 301, 3) := by decide +kernel
theorem dX6_reportByte_22 : decode cX6_reportByte 22 = .ok (.athrow, 1) := by decide +kernel
theorem dX6_reportByte_23 : decode cX6_reportByte 23 = .ok (.aload_n 0, 1) := by decide +kernel
theorem dX6_reportByte_24 : decode cX6_reportByte 24 = .ok (.getfield 37, 3) := by decide +kernel
theorem dX6_reportByte_27 : decode cX6_reportByte 27 = .ok (.getfield 302, 3) := by decide +kernel
theorem dX6_reportByte_30 : decode cX6_reportByte 30 = .ok (.iload_n 1, 1) := by decide +kernel
theorem dX6_reportByte_31 : decode cX6_reportByte 31 = .ok (.baload, 1) := by decide +kernel
theorem dX6_reportByte_32 : decode cX6_reportByte 32 = .ok (.ireturn, 1) := by decide +kernel
theorem dX6_undo_0 : decode cX6_undo 0 = .ok (.aload_n 0, 1) := by decide +kernel
theorem dX6_undo_1 : decode cX6_undo 1 = .ok (.getfield 90, 3) := by decide +kernel
theorem dX6_undo_4 : decode cX6_undo 4 = .ok (.iconst 1, 1) := by decide +kernel
theorem dX6_undo_5 : decode cX6_undo 5 = .ok (.if_icmp .ge 5, 3) := by decide +kernel
theorem dX6_undo_8 : decode cX6_undo 8 = .ok (.iconst (-1), 1) := by decide +kernel
theorem dX6_undo_9 : decode cX6_undo 9 = .ok (.ireturn, 1) := by decide +kernel
theorem dX6_undo_10 : decode cX6_undo 10 = .ok (.aload_n 0, 1) := by decide +kernel
theorem dX6_undo_11 : decode cX6_undo 11 = .ok (.dup, 1) := by decide +kernel
theorem dX6_undo_12 : decode cX6_undo 12 = .ok (.getfield 90, 3) := by decide +kernel
theorem dX6_undo_15 : decode cX6_undo 15 = .ok (.iconst 1, 1) := by decide +kernel
theorem dX6_undo_16 : decode cX6_undo 16 = .ok (.isub, 1) := by decide +kernel
theorem dX6_undo_17 : decode cX6_undo 17 = .ok (.putfield 90, 3) := by decide +kernel
theorem dX6_undo_20 : decode cX6_undo 20 = .ok (.aload_n 0, 1) := by decide +kernel
theorem dX6_undo_21 : decode cX6_undo 21 = .ok (.getfield 20, 3) := by decide +kernel
theorem dX6_undo_24 : decode cX6_undo 24 = .ok (.aload_n 0, 1) := by decide +kernel
theorem dX6_undo_25 : decode cX6_undo 25 = .ok (.getfield 30, 3) := by decide +kernel
theorem dX6_undo_28 : decode cX6_undo 28 = .ok (.aload_n 0, 1) := by decide +kernel
theorem dX6_undo_29 : decode cX6_undo 29 = .ok (.getfield 90, 3) := by decide +kernel
theorem dX6_undo_32 : decode cX6_undo 32 = .ok (.aaload, 1) := by decide +kernel
theorem dX6_undo_33 : decode cX6_undo 33 = .ok (.invokevirtual 86, 3) := by decide +kernel
theorem dX6_undo_36 : decode cX6_undo 36 = .ok (.aload_n 0, 1) := by decide +kernel
theorem dX6_undo_37 : decode cX6_undo 37 = .ok (.getfield 90, 3) := by decide +kernel
theorem dX6_undo_40 : decode cX6_undo 40 = .ok (.ireturn, 1) := by decide +kernel
theorem dX6_save_0 : decode cX6_save 0 = .ok (.aload_n 0, 1) := by decide +kernel
theorem dX6_save_1 : decode cX6_save 1 = .ok (.getfield 27, 3) := by decide +kernel
theorem dX6_save_4 : decode cX6_save 4 = .ok (.aload_n 0, 1) := by decide +kernel
theorem dX6_save_5 : decode cX6_save 5 = .ok (.getfield 20, 3) := by decide +kernel
theorem dX6_save_8 : decode cX6_save 8 = .ok (.invokevirtual 86, 3) := by decide +kernel
theorem dX6_save_11 : decode cX6_save 11 = .ok (.aload_n 0, 1) := by decide +kernel
theorem dX6_save_12 : decode cX6_save 12 = .ok (.iconst 1, 1) := by decide +kernel
theorem dX6_save_13 : decode cX6_save 13 = .ok (.putfield 305, 3) := by decide +kernel
theorem dX6_save_16 : decode cX6_save 16 = .ok (.aload_n 0, 1) := by decide +kernel
theorem dX6_save_17 : decode cX6_save 17 = .ok (.getfield 20, 3) := by decide +kernel
theorem dX6_save_20 : decode cX6_save 20 = .ok (.getfield 114, 3) := by decide +kernel
theorem dX6_save_23 : decode cX6_save 23 = .ok (.ireturn, 1) := by decide +kernel
theorem dX6_restore_0 : decode cX6_restore 0 = .ok (.aload_n 0, 1) := by decide +kernel
theorem dX6_restore_1 : decode cX6_restore 1 = .ok (.getfield 305, 3) := by decide +kernel
theorem dX6_restore_4 : decode cX6_restore 4 = .ok (.ifCond .ne 11, 3) := by decide +kernel
theorem dX6_restore_7 : decode cX6_restore 7 = .ok (.new 58, 3) := by decide +kernel
theorem dX6_restore_10 : decode cX6_restore 10 = .ok (.dup, 1) := by decide +kernel
theorem dX6_restore_11 : decode cX6_restore 11 = .ok (.invokespecial 60, 3) := by decide +kernel
theorem dX6_restore_14 : decode cX6_restore 14 = .ok (.athrow, 1) := by decide +kernel
theorem dX6_restore_15 : decode cX6_restore 15 = .ok (.aload_n 0, 1) := by decide +kernel
theorem dX6_restore_16 : decode cX6_restore 16 = .ok (.getfield 20, 3) := by decide +kernel
theorem dX6_restore_19 : decode cX6_restore 19 = .ok (.aload_n 0, 1) := by decide +kernel
theorem dX6_restore_20 : decode cX6_restore 20 = .ok (.getfield 27, 3) := by decide +kernel
theorem dX6_restore_23 : decode cX6_restore 23 = .ok (.invokevirtual 86, 3) := by decide +kernel
theorem dX6_restore_26 : decode cX6_restore 26 = .ok (.aload_n 0, 1) := by decide +kernel
theorem dX6_restore_27 : decode cX6_restore 27 = .ok (.iconst 0, 1) := by decide +kernel
theorem dX6_restore_28 : decode cX6_restore 28 = .ok (.putfield 90, 3) := by decide +kernel
theorem dX6_restore_31 : decode cX6_restore 31 = .ok (.aload_n 0, 1) := by decide +kernel
theorem dX6_restore_32 : decode cX6_restore 32 = .ok (.getfield 20, 3) := by decide +kernel
theorem dX6_restore_35 : decode cX6_restore 35 = .ok (.getfield 114, 3) := by decide +kernel
theorem dX6_restore_38 : decode cX6_restore 38 = .ok (.ireturn, 1) := by decide +kernel
theorem dX6_keepForUndo_0 : decode cX6_keepForUndo 0 = .ok (.aload_n 0, 1) := by decide +kernel
theorem dX6_keepForUndo_1 : decode cX6_keepForUndo 1 = .ok (.getfield 90, 3) := by decide +kernel
theorem dX6_keepForUndo_4 : decode cX6_keepForUndo 4 = .ok (.bipush 6, 2) := by decide +kernel
theorem dX6_keepForUndo_6 : decode cX6_keepForUndo 6 = .ok (.if_icmp .lt 50, 3) := by decide +kernel
theorem dX6_keepForUndo_9 : decode cX6_keepForUndo 9 = .ok (.aload_n 0, 1) := by decide +kernel
theorem dX6_keepForUndo_10 : decode cX6_keepForUndo 10 = .ok (.getfield 30, 3) := by decide +kernel
theorem dX6_keepForUndo_13 : decode cX6_keepForUndo 13 = .ok (.iconst 0, 1) := by decide +kernel
theorem dX6_keepForUndo_14 : decode cX6_keepForUndo 14 = .ok (.aaload, 1) := by decide +kernel
theorem dX6_keepForUndo_15 : decode cX6_keepForUndo 15 = .ok (.astore_n 1, 1) := by decide +kernel
theorem dX6_keepForUndo_16 : decode cX6_keepForUndo 16 = .ok (.iconst 1, 1) := by decide +kernel
theorem dX6_keepForUndo_17 : decode cX6_keepForUndo 17 = .ok (.istore_n 2, 1) := by decide +kernel
theorem dX6_keepForUndo_18 : decode cX6_keepForUndo 18 = .ok (.iload_n 2, 1) := by decide +kernel
theorem dX6_keepForUndo_19 : decode cX6_keepForUndo 19 = .ok (.bipush 6, 2) := by decide +kernel
theorem dX6_keepForUndo_21 : decode cX6_keepForUndo 21 = .ok (.if_icmp .ge 23, 3) := by decide +kernel
theorem dX6_keepForUndo_24 : decode cX6_keepForUndo 24 = .ok (.aload_n 0, 1) := by decide +kernel
theorem dX6_keepForUndo_25 : decode cX6_keepForUndo 25 = .ok (.getfield 30, 3) := by decide +kernel
theorem dX6_keepForUndo_28 : decode cX6_keepForUndo 28 = .ok (.iload_n 2, 1) := by decide +kernel
theorem dX6_keepForUndo_29 : decode cX6_keepForUndo 29 = .ok (.iconst 1, 1) := by decide +kernel
theorem dX6_keepForUndo_30 : decode cX6_keepForUndo 30 = .ok (.isub, 1) := by decide +kernel
theorem dX6_keepForUndo_31 : decode cX6_keepForUndo 31 = .ok (.aload_n 0, 1) := by decide +kernel
theorem dX6_keepForUndo_32 : decode cX6_keepForUndo 32 = .ok (.getfield 30, 3) := by decide +kernel
theorem dX6_keepForUndo_35 : decode cX6_keepForUndo 35 = .ok (.iload_n 2, 1) := by decide +kernel
theorem dX6_keepForUndo_36 : decode cX6_keepForUndo 36 = .ok (.aaload, 1) := by decide +kernel
theorem dX6_keepForUndo_37 : decode cX6_keepForUndo 37 = .ok (.aastore, 1) := by decide +kernel
theorem dX6_keepForUndo_38 : decode cX6_keepForUndo 38 = .ok (.iinc 2 1, 3) := by decide +kernel
theorem dX6_keepForUndo_41 : decode cX6_keepForUndo 41 = .ok (.goto (-23), 3) := by decide +kernel
theorem dX6_keepForUndo_44 : decode cX6_keepForUndo 44 = .ok (.aload_n 0, 1) := by decide +kernel
theorem dX6_keepForUndo_45 : decode cX6_keepForUndo 45 = .ok (.getfield 30, 3) := by decide +kernel
theorem dX6_keepForUndo_48 : decode cX6_keepForUndo 48 = .ok (.iconst 5, 1) := by decide +kernel
theorem dX6_keepForUndo_49 : decode cX6_keepForUndo 49 = .ok (.aload_n 1, 1) := by decide +kernel
theorem dX6_keepForUndo_50 : decode cX6_keepForUndo 50 = .ok (.aastore, 1) := by decide +kernel
theorem dX6_keepForUndo_51 : decode cX6_keepForUndo 51 = .ok (.aload_n 0, 1) := by decide +kernel
theorem dX6_keepForUndo_52 : decode cX6_keepForUndo 52 = .ok (.iconst 5, 1) := by decide +kernel
theorem dX6_keepForUndo_53 : decode cX6_keepForUndo 53 = .ok (.putfield 90, 3) := by decide +kernel
theorem dX6_keepForUndo_56 : decode cX6_keepForUndo 56 = .ok (.aload_n 0, 1) := by decide +kernel
theorem dX6_keepForUndo_57 : decode cX6_keepForUndo 57 = .ok (.getfield 30, 3) := by decide +kernel
theorem dX6_keepForUndo_60 : decode cX6_keepForUndo 60 = .ok (.aload_n 0, 1) := by decide +kernel
theorem dX6_keepForUndo_61 : decode cX6_keepForUndo 61 = .ok (.getfield 90, 3) := by decide +kernel
theorem dX6_keepForUndo_64 : decode cX6_keepForUndo 64 = .ok (.aaload, 1) := by decide +kernel
theorem dX6_keepForUndo_65 : decode cX6_keepForUndo 65 = .ok (.aload_n 0, 1) := by decide +kernel
theorem dX6_keepForUndo_66 : decode cX6_keepForUndo 66 = .ok (.getfield 20, 3) := by decide +kernel
theorem dX6_keepForUndo_69 : decode cX6_keepForUndo 69 = .ok (.invokevirtual 86, 3) := by decide +kernel
theorem dX6_keepForUndo_72 : decode cX6_keepForUndo 72 = .ok (.aload_n 0, 1) := by decide +kernel
theorem dX6_keepForUndo_73 : decode cX6_keepForUndo 73 = .ok (.dup, 1) := by decide +kernel
theorem dX6_keepForUndo_74 : decode cX6_keepForUndo 74 = .ok (.getfield 90, 3) := by decide +kernel
theorem dX6_keepForUndo_77 : decode cX6_keepForUndo 77 = .ok (.iconst 1, 1) := by decide +kernel
theorem dX6_keepForUndo_78 : decode cX6_keepForUndo 78 = .ok (.iadd, 1) := by decide +kernel
theorem dX6_keepForUndo_79 : decode cX6_keepForUndo 79 = .ok (.putfield 90, 3) := by decide +kernel
theorem dX6_keepForUndo_82 : decode cX6_keepForUndo 82 = .ok (.return_, 1) := by decide +kernel
theorem dX6_requireBeacon_0 : decode cX6_requireBeacon 0 = .ok (.iload_n 1, 1) := by decide +kernel
theorem dX6_requireBeacon_1 : decode cX6_requireBeacon 1 = .ok (.ifCond .lt 14, 3) := by decide +kernel
theorem dX6_requireBeacon_4 : decode cX6_requireBeacon 4 = .ok (.iload_n 1, 1) := by decide +kernel
theorem dX6_requireBeacon_5 : decode cX6_requireBeacon 5 = .ok (.aload_n 0, 1) := by decide +kernel
theorem dX6_requireBeacon_6 : decode cX6_requireBeacon 6 = .ok (.getfield 20, 3) := by decide +kernel
theorem dX6_requireBeacon_9 : decode cX6_requireBeacon 9 = .ok (.getfield 93, 3) := by decide +kernel
theorem dX6_requireBeacon_12 : decode cX6_requireBeacon 12 = .ok (.if_icmp .lt 11, 3) := by decide +kernel
theorem dX6_requireBeacon_15 : decode cX6_requireBeacon 15 = .ok (.new 299, 3) := by decide +kernel
theorem dX6_requireBeacon_18 : decode cX6_requireBeacon 18 = .ok (.dup, 1) := by decide +kernel
theorem dX6_requireBeacon_19 : decode cX6_requireBeacon 19 = .ok (.invokespecial 301, 3) := by decide +kernel
theorem dX6_requireBeacon_22 : decode cX6_requireBeacon 22 = .ok (.athrow, 1) := by decide +kernel
theorem dX6_requireBeacon_23 : decode cX6_requireBeacon 23 = .ok (.return_, 1) := by decide +kernel
theorem dX6_requireAhead_0 : decode cX6_requireAhead 0 = .ok (.iload_n 0, 1) := by decide +kernel
theorem dX6_requireAhead_1 : decode cX6_requireAhead 1 = .ok (.ifCond .lt 10, 3) := by decide +kernel
theorem dX6_requireAhead_4 : decode cX6_requireAhead 4 = .ok (.iload_n 0, 1) := by decide +kernel
theorem dX6_requireAhead_5 : decode cX6_requireAhead 5 = .ok (.sipush 200, 3) := by decide +kernel
theorem dX6_requireAhead_8 : decode cX6_requireAhead 8 = .ok (.if_icmp .le 11, 3) := by decide +kernel
theorem dX6_requireAhead_11 : decode cX6_requireAhead 11 = .ok (.new 65, 3) := by decide +kernel
theorem dX6_requireAhead_14 : decode cX6_requireAhead 14 = .ok (.dup, 1) := by decide +kernel
theorem dX6_requireAhead_15 : decode cX6_requireAhead 15 = .ok (.invokespecial 67, 3) := by decide +kernel
theorem dX6_requireAhead_18 : decode cX6_requireAhead 18 = .ok (.athrow, 1) := by decide +kernel
theorem dX6_requireAhead_19 : decode cX6_requireAhead 19 = .ok (.return_, 1) := by decide +kernel
theorem dX6_isCharge_0 : decode cX6_isCharge 0 = .ok (.iload_n 0, 1) := by decide +kernel
theorem dX6_isCharge_1 : decode cX6_isCharge 1 = .ok (.iconst 1, 1) := by decide +kernel
theorem dX6_isCharge_2 : decode cX6_isCharge 2 = .ok (.if_icmp .lt 14, 3) := by decide +kernel
theorem dX6_isCharge_5 : decode cX6_isCharge 5 = .ok (.iload_n 0, 1) := by decide +kernel
theorem dX6_isCharge_6 : decode cX6_isCharge 6 = .ok (.sipush 999, 3) := by decide +kernel
theorem dX6_isCharge_9 : decode cX6_isCharge 9 = .ok (.if_icmp .gt 7, 3) := by decide +kernel
theorem dX6_isCharge_12 : decode cX6_isCharge 12 = .ok (.iconst 1, 1) := by decide +kernel
theorem dX6_isCharge_13 : decode cX6_isCharge 13 = .ok (.goto 4, 3) := by decide +kernel
theorem dX6_isCharge_16 : decode cX6_isCharge 16 = .ok (.iconst 0, 1) := by decide +kernel
theorem dX6_isCharge_17 : decode cX6_isCharge 17 = .ok (.ireturn, 1) := by decide +kernel
theorem dX6_isIn_0 : decode cX6_isIn 0 = .ok (.iload_n 0, 1) := by decide +kernel
theorem dX6_isIn_1 : decode cX6_isIn 1 = .ok (.iload_n 1, 1) := by decide +kernel
theorem dX6_isIn_2 : decode cX6_isIn 2 = .ok (.ishr, 1) := by decide +kernel
theorem dX6_isIn_3 : decode cX6_isIn 3 = .ok (.iconst 1, 1) := by decide +kernel
theorem dX6_isIn_4 : decode cX6_isIn 4 = .ok (.iand, 1) := by decide +kernel
theorem dX6_isIn_5 : decode cX6_isIn 5 = .ok (.ifCond .eq 7, 3) := by decide +kernel
theorem dX6_isIn_8 : decode cX6_isIn 8 = .ok (.iconst 1, 1) := by decide +kernel
theorem dX6_isIn_9 : decode cX6_isIn 9 = .ok (.goto 4, 3) := by decide +kernel
theorem dX6_isIn_12 : decode cX6_isIn 12 = .ok (.iconst 0, 1) := by decide +kernel
theorem dX6_isIn_13 : decode cX6_isIn 13 = .ok (.ireturn, 1) := by decide +kernel
theorem dX6_letterOf_0 : decode cX6_letterOf 0 = .ok (.iload_n 2, 1) := by decide +kernel
theorem dX6_letterOf_1 : decode cX6_letterOf 1 = .ok (.ifCond .lt 9, 3) := by decide +kernel
theorem dX6_letterOf_4 : decode cX6_letterOf 4 = .ok (.iload_n 2, 1) := by decide +kernel
theorem dX6_letterOf_5 : decode cX6_letterOf 5 = .ok (.bipush 8, 2) := by decide +kernel
theorem dX6_letterOf_7 : decode cX6_letterOf 7 = .ok (.if_icmp .lt 7, 3) := by decide +kernel
theorem dX6_letterOf_10 : decode cX6_letterOf 10 = .ok (.iconst 0, 1) := by decide +kernel
theorem dX6_letterOf_11 : decode cX6_letterOf 11 = .ok (.goto 14, 3) := by decide +kernel
theorem dX6_letterOf_14 : decode cX6_letterOf 14 = .ok (.lload_n 0, 1) := by decide +kernel
theorem dX6_letterOf_15 : decode cX6_letterOf 15 = .ok (.bipush 8, 2) := by decide +kernel
theorem dX6_letterOf_17 : decode cX6_letterOf 17 = .ok (.iload_n 2, 1) := by decide +kernel
theorem dX6_letterOf_18 : decode cX6_letterOf 18 = .ok (.imul, 1) := by decide +kernel
theorem dX6_letterOf_19 : decode cX6_letterOf 19 = .ok (.lushr, 1) := by decide +kernel
theorem dX6_letterOf_20 : decode cX6_letterOf 20 = .ok (.l2i, 1) := by decide +kernel
theorem dX6_letterOf_21 : decode cX6_letterOf 21 = .ok (.sipush 255, 3) := by decide +kernel
theorem dX6_letterOf_24 : decode cX6_letterOf 24 = .ok (.iand, 1) := by decide +kernel
theorem dX6_letterOf_25 : decode cX6_letterOf 25 = .ok (.ireturn, 1) := by decide +kernel
theorem dX7_init_0 : decode cX7_init 0 = .ok (.aload_n 0, 1) := by decide +kernel
theorem dX7_init_1 : decode cX7_init 1 = .ok (.invokespecial 1, 3) := by decide +kernel
theorem dX7_init_4 : decode cX7_init 4 = .ok (.aload_n 0, 1) := by decide +kernel
theorem dX7_init_5 : decode cX7_init 5 = .ok (.sipush 700, 3) := by decide +kernel
theorem dX7_init_8 : decode cX7_init 8 = .ok (.newarray .int, 2) := by decide +kernel
theorem dX7_init_10 : decode cX7_init 10 = .ok (.putfield 7, 3) := by decide +kernel
theorem dX7_init_13 : decode cX7_init 13 = .ok (.aload_n 0, 1) := by decide +kernel
theorem dX7_init_14 : decode cX7_init 14 = .ok (.iconst (-1), 1) := by decide +kernel
theorem dX7_init_15 : decode cX7_init 15 = .ok (.putfield 13, 3) := by decide +kernel
theorem dX7_init_18 : decode cX7_init 18 = .ok (.aload_n 0, 1) := by decide +kernel
theorem dX7_init_19 : decode cX7_init 19 = .ok (.iconst (-1), 1) := by decide +kernel
theorem dX7_init_20 : decode cX7_init 20 = .ok (.putfield 17, 3) := by decide +kernel
theorem dX7_init_23 : decode cX7_init 23 = .ok (.aload_n 0, 1) := by decide +kernel
theorem dX7_init_24 : decode cX7_init 24 = .ok (.sipush 365, 3) := by decide +kernel
theorem dX7_init_27 : decode cX7_init 27 = .ok (.newarray .int, 2) := by decide +kernel
theorem dX7_init_29 : decode cX7_init 29 = .ok (.putfield 20, 3) := by decide +kernel
theorem dX7_init_32 : decode cX7_init 32 = .ok (.aload_n 0, 1) := by decide +kernel
theorem dX7_init_33 : decode cX7_init 33 = .ok (.sipush 365, 3) := by decide +kernel
theorem dX7_init_36 : decode cX7_init 36 = .ok (.newarray .int, 2) := by decide +kernel
theorem dX7_init_38 : decode cX7_init 38 = .ok (.putfield 23, 3) := by decide +kernel
theorem dX7_init_41 : decode cX7_init 41 = .ok (.aload_n 0, 1) := by decide +kernel
theorem dX7_init_42 : decode cX7_init 42 = .ok (.sipush 365, 3) := by decide +kernel
theorem dX7_init_45 : decode cX7_init 45 = .ok (.newarray .int, 2) := by decide +kernel
theorem dX7_init_47 : decode cX7_init 47 = .ok (.putfield 26, 3) := by decide +kernel
theorem dX7_init_50 : decode cX7_init 50 = .ok (.aload_n 0, 1) := by decide +kernel
theorem dX7_init_51 : decode cX7_init 51 = .ok (.sipush 365, 3) := by decide +kernel
theorem dX7_init_54 : decode cX7_init 54 = .ok (.newarray .int, 2) := by decide +kernel
theorem dX7_init_56 : decode cX7_init 56 = .ok (.putfield 29, 3) := by decide +kernel
theorem dX7_init_59 : decode cX7_init 59 = .ok (.aload_n 0, 1) := by decide +kernel
theorem dX7_init_60 : decode cX7_init 60 = .ok (.sipush 2190, 3) := by decide +kernel
theorem dX7_init_63 : decode cX7_init 63 = .ok (.newarray .int, 2) := by decide +kernel
theorem dX7_init_65 : decode cX7_init 65 = .ok (.putfield 32, 3) := by decide +kernel
theorem dX7_init_68 : decode cX7_init 68 = .ok (.aload_n 0, 1) := by decide +kernel
theorem dX7_init_69 : decode cX7_init 69 = .ok (.bipush 8, 2) := by decide +kernel
theorem dX7_init_71 : decode cX7_init 71 = .ok (.newarray .long, 2) := by decide +kernel
theorem dX7_init_73 : decode cX7_init 73 = .ok (.putfield 35, 3) := by decide +kernel
theorem dX7_init_76 : decode cX7_init 76 = .ok (.aload_n 0, 1) := by decide +kernel
theorem dX7_init_77 : decode cX7_init 77 = .ok (.bipush 8, 2) := by decide +kernel
theorem dX7_init_79 : decode cX7_init 79 = .ok (.newarray .long, 2) := by decide +kernel
theorem dX7_init_81 : decode cX7_init 81 = .ok (.putfield 39, 3) := by decide +kernel
theorem dX7_init_84 : decode cX7_init 84 = .ok (.aload_n 0, 1) := by decide +kernel
theorem dX7_init_85 : decode cX7_init 85 = .ok (.bipush 8, 2) := by decide +kernel
theorem dX7_init_87 : decode cX7_init 87 = .ok (.newarray .long, 2) := by decide +kernel
theorem dX7_init_89 : decode cX7_init 89 = .ok (.putfield 42, 3) := by decide +kernel
theorem dX7_init_92 : decode cX7_init 92 = .ok (.aload_n 0, 1) := by decide +kernel
theorem dX7_init_93 : decode cX7_init 93 = .ok (.bipush 60, 2) := by decide +kernel
theorem dX7_init_95 : decode cX7_init 95 = .ok (.newarray .int, 2) := by decide +kernel
theorem dX7_init_97 : decode cX7_init 97 = .ok (.putfield 45, 3) := by decide +kernel
theorem dX7_init_100 : decode cX7_init 100 = .ok (.aload_n 0, 1) := by decide +kernel
theorem dX7_init_101 : decode cX7_init 101 = .ok (.bipush 60, 2) := by decide +kernel
theorem dX7_init_103 : decode cX7_init 103 = .ok (.newarray .int, 2) := by decide +kernel
theorem dX7_init_105 : decode cX7_init 105 = .ok (.putfield 48, 3) := by decide +kernel
theorem dX7_init_108 : decode cX7_init 108 = .ok (.aload_n 0, 1) := by decide +kernel
theorem dX7_init_109 : decode cX7_init 109 = .ok (.bipush 60, 2) := by decide +kernel
theorem dX7_init_111 : decode cX7_init 111 = .ok (.newarray .int, 2) := by decide +kernel
theorem dX7_init_113 : decode cX7_init 113 = .ok (.putfield 51, 3) := by decide +kernel
theorem dX7_init_116 : decode cX7_init 116 = .ok (.aload_n 0, 1) := by decide +kernel
theorem dX7_init_117 : decode cX7_init 117 = .ok (.iconst 2, 1) := by decide +kernel
theorem dX7_init_118 : decode cX7_init 118 = .ok (.newarray .int, 2) := by decide +kernel
theorem dX7_init_120 : decode cX7_init 120 = .ok (.putfield 54, 3) := by decide +kernel
theorem dX7_init_123 : decode cX7_init 123 = .ok (.aload_n 0, 1) := by decide +kernel
theorem dX7_init_124 : decode cX7_init 124 = .ok (.iconst 2, 1) := by decide +kernel
theorem dX7_init_125 : decode cX7_init 125 = .ok (.newarray .int, 2) := by decide +kernel
theorem dX7_init_127 : decode cX7_init 127 = .ok (.putfield 57, 3) := by decide +kernel
theorem dX7_init_130 : decode cX7_init 130 = .ok (.aload_n 0, 1) := by decide +kernel
theorem dX7_init_131 : decode cX7_init 131 = .ok (.sipush 900, 3) := by decide +kernel
theorem dX7_init_134 : decode cX7_init 134 = .ok (.newarray .int, 2) := by decide +kernel
theorem dX7_init_136 : decode cX7_init 136 = .ok (.putfield 60, 3) := by decide +kernel
theorem dX7_init_139 : decode cX7_init 139 = .ok (.aload_n 0, 1) := by decide +kernel
theorem dX7_init_140 : decode cX7_init 140 = .ok (.invokevirtual 63, 3) := by decide +kernel
theorem dX7_init_143 : decode cX7_init 143 = .ok (.return_, 1) := by decide +kernel
theorem dX7_thrown_0 : decode cX7_thrown 0 = .ok (.aload_n 0, 1) := by decide +kernel
theorem dX7_thrown_1 : decode cX7_thrown 1 = .ok (.getfield 66, 3) := by decide +kernel
theorem dX7_thrown_4 : decode cX7_thrown 4 = .ok (.ireturn, 1) := by decide +kernel
theorem dX7_isIn_0 : decode cX7_isIn 0 = .ok (.lload_n 0, 1) := by decide +kernel
theorem dX7_isIn_1 : decode cX7_isIn 1 = .ok (.lload_n 2, 1) := by decide +kernel
theorem dX7_isIn_2 : decode cX7_isIn 2 = .ok (.lcmp, 1) := by decide +kernel
theorem dX7_isIn_3 : decode cX7_isIn 3 = .ok (.ifCond .lt 14, 3) := by decide +kernel
theorem dX7_isIn_6 : decode cX7_isIn 6 = .ok (.lload_n 0, 1) := by decide +kernel
theorem dX7_isIn_7 : decode cX7_isIn 7 = .ok (.lload 4, 2) := by decide +kernel
theorem dX7_isIn_9 : decode cX7_isIn 9 = .ok (.lcmp, 1) := by decide +kernel
theorem dX7_isIn_10 : decode cX7_isIn 10 = .ok (.ifCond .gt 7, 3) := by decide +kernel
theorem dX7_isIn_13 : decode cX7_isIn 13 = .ok (.iconst 1, 1) := by decide +kernel
theorem dX7_isIn_14 : decode cX7_isIn 14 = .ok (.goto 4, 3) := by decide +kernel
theorem dX7_isIn_17 : decode cX7_isIn 17 = .ok (.iconst 0, 1) := by decide +kernel
theorem dX7_isIn_18 : decode cX7_isIn 18 = .ok (.ireturn, 1) := by decide +kernel
theorem dX7_truth_0 : decode cX7_truth 0 = .ok (.iload_n 0, 1) := by decide +kernel
theorem dX7_truth_1 : decode cX7_truth 1 = .ok (.ifCond .eq 7, 3) := by decide +kernel
theorem dX7_truth_4 : decode cX7_truth 4 = .ok (.iconst 1, 1) := by decide +kernel
theorem dX7_truth_5 : decode cX7_truth 5 = .ok (.goto 4, 3) := by decide +kernel
theorem dX7_truth_8 : decode cX7_truth 8 = .ok (.iconst 0, 1) := by decide +kernel
theorem dX7_truth_9 : decode cX7_truth 9 = .ok (.ireturn, 1) := by decide +kernel
theorem dX7_has_0 : decode cX7_has 0 = .ok (.iload_n 0, 1) := by decide +kernel
theorem dX7_has_1 : decode cX7_has 1 = .ok (.iload_n 1, 1) := by decide +kernel
theorem dX7_has_2 : decode cX7_has 2 = .ok (.ishr, 1) := by decide +kernel
theorem dX7_has_3 : decode cX7_has 3 = .ok (.iconst 1, 1) := by decide +kernel
theorem dX7_has_4 : decode cX7_has 4 = .ok (.iand, 1) := by decide +kernel
theorem dX7_has_5 : decode cX7_has 5 = .ok (.iconst 1, 1) := by decide +kernel
theorem dX7_has_6 : decode cX7_has 6 = .ok (.if_icmp .ne 7, 3) := by decide +kernel
theorem dX7_has_9 : decode cX7_has 9 = .ok (.iconst 1, 1) := by decide +kernel
theorem dX7_has_10 : decode cX7_has 10 = .ok (.goto 4, 3) := by decide +kernel
theorem dX7_has_13 : decode cX7_has 13 = .ok (.iconst 0, 1) := by decide +kernel
theorem dX7_has_14 : decode cX7_has 14 = .ok (.ireturn, 1) := by decide +kernel
theorem dX7_goes_0 : decode cX7_goes 0 = .ok (.aload_n 0, 1) := by decide +kernel
theorem dX7_goes_1 : decode cX7_goes 1 = .ok (.iload_n 1, 1) := by decide +kernel
theorem dX7_goes_2 : decode cX7_goes 2 = .ok (.ifCond .ne 7, 3) := by decide +kernel
theorem dX7_goes_5 : decode cX7_goes 5 = .ok (.iconst 1, 1) := by decide +kernel
theorem dX7_goes_6 : decode cX7_goes 6 = .ok (.goto 4, 3) := by decide +kernel
theorem dX7_goes_9 : decode cX7_goes 9 = .ok (.iconst 0, 1) := by decide +kernel
theorem dX7_goes_10 : decode cX7_goes 10 = .ok (.invokestatic 69, 3) := by decide +kernel
theorem dX7_goes_13 : decode cX7_goes 13 = .ok (.putfield 66, 3) := by decide +kernel
theorem dX7_goes_16 : decode cX7_goes 16 = .ok (.iload_n 1, 1) := by decide +kernel
theorem dX7_goes_17 : decode cX7_goes 17 = .ok (.ireturn, 1) := by decide +kernel
theorem dX7_goesBoth_0 : decode cX7_goesBoth 0 = .ok (.aload_n 0, 1) := by decide +kernel
theorem dX7_goesBoth_1 : decode cX7_goesBoth 1 = .ok (.iload_n 1, 1) := by decide +kernel
theorem dX7_goesBoth_2 : decode cX7_goesBoth 2 = .ok (.ifCond .ne 7, 3) := by decide +kernel
theorem dX7_goesBoth_5 : decode cX7_goesBoth 5 = .ok (.iconst 1, 1) := by decide +kernel
theorem dX7_goesBoth_6 : decode cX7_goesBoth 6 = .ok (.goto 12, 3) := by decide +kernel
theorem dX7_goesBoth_9 : decode cX7_goesBoth 9 = .ok (.iload_n 2, 1) := by decide +kernel
theorem dX7_goesBoth_10 : decode cX7_goesBoth 10 = .ok (.ifCond .ne 7, 3) := by decide +kernel
theorem dX7_goesBoth_13 : decode cX7_goesBoth 13 = .ok (.iconst 2, 1) := by decide +kernel
theorem dX7_goesBoth_14 : decode cX7_goesBoth 14 = .ok (.goto 4, 3) := by decide +kernel
theorem dX7_goesBoth_17 : decode cX7_goesBoth 17 = .ok (.iconst 0, 1) := by decide +kernel
theorem dX7_goesBoth_18 : decode cX7_goesBoth 18 = .ok (.putfield 66, 3) := by decide +kernel
theorem dX7_goesBoth_21 : decode cX7_goesBoth 21 = .ok (.aload_n 0, 1) := by decide +kernel
theorem dX7_goesBoth_22 : decode cX7_goesBoth 22 = .ok (.getfield 66, 3) := by decide +kernel
theorem dX7_goesBoth_25 : decode cX7_goesBoth 25 = .ok (.ifCond .ne 7, 3) := by decide +kernel
theorem dX7_goesBoth_28 : decode cX7_goesBoth 28 = .ok (.iconst 1, 1) := by decide +kernel
theorem dX7_goesBoth_29 : decode cX7_goesBoth 29 = .ok (.goto 4, 3) := by decide +kernel
theorem dX7_goesBoth_32 : decode cX7_goesBoth 32 = .ok (.iconst 0, 1) := by decide +kernel
theorem dX7_goesBoth_33 : decode cX7_goesBoth 33 = .ok (.ireturn, 1) := by decide +kernel
theorem dX7_feed_0 : decode cX7_feed 0 = .ok (.aload_n 0, 1) := by decide +kernel
theorem dX7_feed_1 : decode cX7_feed 1 = .ok (.aload_n 0, 1) := by decide +kernel
theorem dX7_feed_2 : decode cX7_feed 2 = .ok (.getfield 73, 3) := by decide +kernel
theorem dX7_feed_5 : decode cX7_feed 5 = .ok (.bipush 20, 2) := by decide +kernel
theorem dX7_feed_7 : decode cX7_feed 7 = .ok (.iadd, 1) := by decide +kernel
theorem dX7_feed_8 : decode cX7_feed 8 = .ok (.sipush 700, 3) := by decide +kernel
theorem dX7_feed_11 : decode cX7_feed 11 = .ok (.if_icmp .gt 7, 3) := by decide +kernel
theorem dX7_feed_14 : decode cX7_feed 14 = .ok (.iconst 1, 1) := by decide +kernel
theorem dX7_feed_15 : decode cX7_feed 15 = .ok (.goto 4, 3) := by decide +kernel
theorem dX7_feed_18 : decode cX7_feed 18 = .ok (.iconst 0, 1) := by decide +kernel
theorem dX7_feed_19 : decode cX7_feed 19 = .ok (.invokevirtual 76, 3) := by decide +kernel
theorem dX7_feed_22 : decode cX7_feed 22 = .ok (.ifCond .ne 5, 3) := by decide +kernel
theorem dX7_feed_25 : decode cX7_feed 25 = .ok (.iconst 0, 1) := by decide +kernel
theorem dX7_feed_26 : decode cX7_feed 26 = .ok (.ireturn, 1) := by decide +kernel
theorem dX7_feed_27 : decode cX7_feed 27 = .ok (.aload_n 0, 1) := by decide +kernel
theorem dX7_feed_28 : decode cX7_feed 28 = .ok (.iload_n 1, 1) := by decide +kernel
theorem dX7_feed_29 : decode cX7_feed 29 = .ok (.invokevirtual 80, 3) := by decide +kernel
theorem dX7_feed_32 : decode cX7_feed 32 = .ok (.aload_n 0, 1) := by decide +kernel
theorem dX7_feed_33 : decode cX7_feed 33 = .ok (.iload_n 2, 1) := by decide +kernel
theorem dX7_feed_34 : decode cX7_feed 34 = .ok (.invokevirtual 80, 3) := by decide +kernel
theorem dX7_feed_37 : decode cX7_feed 37 = .ok (.aload_n 0, 1) := by decide +kernel
theorem dX7_feed_38 : decode cX7_feed 38 = .ok (.iload_n 3, 1) := by decide +kernel
theorem dX7_feed_39 : decode cX7_feed 39 = .ok (.invokevirtual 80, 3) := by decide +kernel
theorem dX7_feed_42 : decode cX7_feed 42 = .ok (.aload_n 0, 1) := by decide +kernel
theorem dX7_feed_43 : decode cX7_feed 43 = .ok (.iload 4, 2) := by decide +kernel
theorem dX7_feed_45 : decode cX7_feed 45 = .ok (.invokevirtual 80, 3) := by decide +kernel
theorem dX7_feed_48 : decode cX7_feed 48 = .ok (.aload_n 0, 1) := by decide +kernel
theorem dX7_feed_49 : decode cX7_feed 49 = .ok (.iload 5, 2) := by decide +kernel
theorem dX7_feed_51 : decode cX7_feed 51 = .ok (.invokevirtual 80, 3) := by decide +kernel
theorem dX7_feed_54 : decode cX7_feed 54 = .ok (.aload_n 0, 1) := by decide +kernel
theorem dX7_feed_55 : decode cX7_feed 55 = .ok (.getfield 73, 3) := by decide +kernel
theorem dX7_feed_58 : decode cX7_feed 58 = .ok (.ireturn, 1) := by decide +kernel
theorem dX7_four_0 : decode cX7_four 0 = .ok (.bipush 24, 2) := by decide +kernel
theorem dX7_four_2 : decode cX7_four 2 = .ok (.istore_n 2, 1) := by decide +kernel
theorem dX7_four_3 : decode cX7_four 3 = .ok (.iload_n 2, 1) := by decide +kernel
theorem dX7_four_4 : decode cX7_four 4 = .ok (.ifCond .lt 35, 3) := by decide +kernel
theorem dX7_four_7 : decode cX7_four 7 = .ok (.aload_n 0, 1) := by decide +kernel
theorem dX7_four_8 : decode cX7_four 8 = .ok (.getfield 7, 3) := by decide +kernel
theorem dX7_four_11 : decode cX7_four 11 = .ok (.aload_n 0, 1) := by decide +kernel
theorem dX7_four_12 : decode cX7_four 12 = .ok (.getfield 73, 3) := by decide +kernel
theorem dX7_four_15 : decode cX7_four 15 = .ok (.iload_n 1, 1) := by decide +kernel
theorem dX7_four_16 : decode cX7_four 16 = .ok (.iload_n 2, 1) := by decide +kernel
theorem dX7_four_17 : decode cX7_four 17 = .ok (.ishr, 1) := by decide +kernel
theorem dX7_four_18 : decode cX7_four 18 = .ok (.sipush 255, 3) := by decide +kernel
theorem dX7_four_21 : decode cX7_four 21 = .ok (.iand, 1) := by decide +kernel
theorem dX7_four_22 : decode cX7_four 22 = .ok (.iastore, 1) := by decide +kernel
theorem dX7_four_23 : decode cX7_four 23 = .ok (.aload_n 0, 1) := by decide +kernel
theorem dX7_four_24 : decode cX7_four 24 = .ok (.dup, 1) := by decide +kernel
theorem dX7_four_25 : decode cX7_four 25 = .ok (.getfield 73, 3) := by decide +kernel
theorem dX7_four_28 : decode cX7_four 28 = .ok (.iconst 1, 1) := by decide +kernel
theorem dX7_four_29 : decode cX7_four 29 = .ok (.iadd, 1) := by decide +kernel
theorem dX7_four_30 : decode cX7_four 30 = .ok (.putfield 73, 3) := by decide +kernel
theorem dX7_four_33 : decode cX7_four 33 = .ok (.iinc 2 (-8), 3) := by decide +kernel
theorem dX7_four_36 : decode cX7_four 36 = .ok (.goto (-33), 3) := by decide +kernel
theorem dX7_four_39 : decode cX7_four 39 = .ok (.return_, 1) := by decide +kernel
theorem dX7_truncate_0 : decode cX7_truncate 0 = .ok (.aload_n 0, 1) := by decide +kernel
theorem dX7_truncate_1 : decode cX7_truncate 1 = .ok (.iload_n 1, 1) := by decide +kernel
theorem dX7_truncate_2 : decode cX7_truncate 2 = .ok (.i2l, 1) := by decide +kernel
theorem dX7_truncate_3 : decode cX7_truncate 3 = .ok (.lconst 0, 1) := by decide +kernel
theorem dX7_truncate_4 : decode cX7_truncate 4 = .ok (.aload_n 0, 1) := by decide +kernel
theorem dX7_truncate_5 : decode cX7_truncate 5 = .ok (.getfield 73, 3) := by decide +kernel
theorem dX7_truncate_8 : decode cX7_truncate 8 = .ok (.i2l, 1) := by decide +kernel
theorem dX7_truncate_9 : decode cX7_truncate 9 = .ok (.invokestatic 84, 3) := by decide +kernel
theorem dX7_truncate_12 : decode cX7_truncate 12 = .ok (.invokevirtual 76, 3) := by decide +kernel
theorem dX7_truncate_15 : decode cX7_truncate 15 = .ok (.ifCond .ne 5, 3) := by decide +kernel
theorem dX7_truncate_18 : decode cX7_truncate 18 = .ok (.iconst 0, 1) := by decide +kernel
theorem dX7_truncate_19 : decode cX7_truncate 19 = .ok (.ireturn, 1) := by decide +kernel
theorem dX7_truncate_20 : decode cX7_truncate 20 = .ok (.aload_n 0, 1) := by decide +kernel
theorem dX7_truncate_21 : decode cX7_truncate 21 = .ok (.iload_n 1, 1) := by decide +kernel
theorem dX7_truncate_22 : decode cX7_truncate 22 = .ok (.putfield 73, 3) := by decide +kernel
theorem dX7_truncate_25 : decode cX7_truncate 25 = .ok (.iload_n 1, 1) := by decide +kernel
theorem dX7_truncate_26 : decode cX7_truncate 26 = .ok (.ireturn, 1) := by decide +kernel
theorem dX7_here_0 : decode cX7_here 0 = .ok (.aload_n 0, 1) := by decide +kernel
theorem dX7_here_1 : decode cX7_here 1 = .ok (.getfield 88, 3) := by decide +kernel
theorem dX7_here_4 : decode cX7_here 4 = .ok (.iload_n 1, 1) := by decide +kernel
theorem dX7_here_5 : decode cX7_here 5 = .ok (.iadd, 1) := by decide +kernel
theorem dX7_here_6 : decode cX7_here 6 = .ok (.aload_n 0, 1) := by decide +kernel
theorem dX7_here_7 : decode cX7_here 7 = .ok (.getfield 91, 3) := by decide +kernel
theorem dX7_here_10 : decode cX7_here 10 = .ok (.if_icmp .ge 17, 3) := by decide +kernel
theorem dX7_here_13 : decode cX7_here 13 = .ok (.aload_n 0, 1) := by decide +kernel
theorem dX7_here_14 : decode cX7_here 14 = .ok (.getfield 7, 3) := by decide +kernel
theorem dX7_here_17 : decode cX7_here 17 = .ok (.aload_n 0, 1) := by decide +kernel
theorem dX7_here_18 : decode cX7_here 18 = .ok (.getfield 88, 3) := by decide +kernel
theorem dX7_here_21 : decode cX7_here 21 = .ok (.iload_n 1, 1) := by decide +kernel
theorem dX7_here_22 : decode cX7_here 22 = .ok (.iadd, 1) := by decide +kernel
theorem dX7_here_23 : decode cX7_here 23 = .ok (.iaload, 1) := by decide +kernel
theorem dX7_here_24 : decode cX7_here 24 = .ok (.goto 4, 3) := by decide +kernel
theorem dX7_here_27 : decode cX7_here 27 = .ok (.iconst (-1), 1) := by decide +kernel
theorem dX7_here_28 : decode cX7_here 28 = .ok (.ireturn, 1) := by decide +kernel
theorem dX7_isLetter_0 : decode cX7_isLetter 0 = .ok (.iload_n 0, 1) := by decide +kernel
theorem dX7_isLetter_1 : decode cX7_isLetter 1 = .ok (.bipush 97, 2) := by decide +kernel
theorem dX7_isLetter_3 : decode cX7_isLetter 3 = .ok (.if_icmp .lt 13, 3) := by decide +kernel
theorem dX7_isLetter_6 : decode cX7_isLetter 6 = .ok (.iload_n 0, 1) := by decide +kernel
theorem dX7_isLetter_7 : decode cX7_isLetter 7 = .ok (.bipush 122, 2) := by decide +kernel
theorem dX7_isLetter_9 : decode cX7_isLetter 9 = .ok (.if_icmp .gt 7, 3) := by decide +kernel
theorem dX7_isLetter_12 : decode cX7_isLetter 12 = .ok (.iconst 1, 1) := by decide +kernel
theorem dX7_isLetter_13 : decode cX7_isLetter 13 = .ok (.goto 4, 3) := by decide +kernel
theorem dX7_isLetter_16 : decode cX7_isLetter 16 = .ok (.iconst 0, 1) := by decide +kernel
theorem dX7_isLetter_17 : decode cX7_isLetter 17 = .ok (.ireturn, 1) := by decide +kernel
theorem dX7_isDigit_0 : decode cX7_isDigit 0 = .ok (.iload_n 0, 1) := by decide +kernel
theorem dX7_isDigit_1 : decode cX7_isDigit 1 = .ok (.bipush 48, 2) := by decide +kernel
theorem dX7_isDigit_3 : decode cX7_isDigit 3 = .ok (.if_icmp .lt 13, 3) := by decide +kernel
theorem dX7_isDigit_6 : decode cX7_isDigit 6 = .ok (.iload_n 0, 1) := by decide +kernel
theorem dX7_isDigit_7 : decode cX7_isDigit 7 = .ok (.bipush 57, 2) := by decide +kernel
theorem dX7_isDigit_9 : decode cX7_isDigit 9 = .ok (.if_icmp .gt 7, 3) := by decide +kernel
theorem dX7_isDigit_12 : decode cX7_isDigit 12 = .ok (.iconst 1, 1) := by decide +kernel
theorem dX7_isDigit_13 : decode cX7_isDigit 13 = .ok (.goto 4, 3) := by decide +kernel
theorem dX7_isDigit_16 : decode cX7_isDigit 16 = .ok (.iconst 0, 1) := by decide +kernel
theorem dX7_isDigit_17 : decode cX7_isDigit 17 = .ok (.ireturn, 1) := by decide +kernel
theorem dX7_goOn_0 : decode cX7_goOn 0 = .ok (.aload_n 0, 1) := by decide +kernel
theorem dX7_goOn_1 : decode cX7_goOn 1 = .ok (.iconst 0, 1) := by decide +kernel
theorem dX7_goOn_2 : decode cX7_goOn 2 = .ok (.invokevirtual 94, 3) := by decide +kernel
theorem dX7_goOn_5 : decode cX7_goOn 5 = .ok (.bipush 32, 2) := by decide +kernel
theorem dX7_goOn_7 : decode cX7_goOn 7 = .ok (.if_icmp .eq 13, 3) := by decide +kernel
theorem dX7_goOn_10 : decode cX7_goOn 10 = .ok (.aload_n 0, 1) := by decide +kernel
theorem dX7_goOn_11 : decode cX7_goOn 11 = .ok (.iconst 0, 1) := by decide +kernel
theorem dX7_goOn_12 : decode cX7_goOn 12 = .ok (.invokevirtual 94, 3) := by decide +kernel
theorem dX7_goOn_15 : decode cX7_goOn 15 = .ok (.bipush 10, 2) := by decide +kernel
theorem dX7_goOn_17 : decode cX7_goOn 17 = .ok (.if_icmp .ne 16, 3) := by decide +kernel
theorem dX7_goOn_20 : decode cX7_goOn 20 = .ok (.aload_n 0, 1) := by decide +kernel
theorem dX7_goOn_21 : decode cX7_goOn 21 = .ok (.dup, 1) := by decide +kernel
theorem dX7_goOn_22 : decode cX7_goOn 22 = .ok (.getfield 88, 3) := by decide +kernel
theorem dX7_goOn_25 : decode cX7_goOn 25 = .ok (.iconst 1, 1) := by decide +kernel
theorem dX7_goOn_26 : decode cX7_goOn 26 = .ok (.iadd, 1) := by decide +kernel
theorem dX7_goOn_27 : decode cX7_goOn 27 = .ok (.putfield 88, 3) := by decide +kernel
theorem dX7_goOn_30 : decode cX7_goOn 30 = .ok (.goto (-30), 3) := by decide +kernel
theorem dX7_goOn_33 : decode cX7_goOn 33 = .ok (.aload_n 0, 1) := by decide +kernel
theorem dX7_goOn_34 : decode cX7_goOn 34 = .ok (.aload_n 0, 1) := by decide +kernel
theorem dX7_goOn_35 : decode cX7_goOn 35 = .ok (.getfield 88, 3) := by decide +kernel
theorem dX7_goOn_38 : decode cX7_goOn 38 = .ok (.putfield 98, 3) := by decide +kernel
theorem dX7_goOn_41 : decode cX7_goOn 41 = .ok (.aload_n 0, 1) := by decide +kernel
theorem dX7_goOn_42 : decode cX7_goOn 42 = .ok (.lconst 0, 1) := by decide +kernel
theorem dX7_goOn_43 : decode cX7_goOn 43 = .ok (.putfield 101, 3) := by decide +kernel
theorem dX7_goOn_46 : decode cX7_goOn 46 = .ok (.aload_n 0, 1) := by decide +kernel
theorem dX7_goOn_47 : decode cX7_goOn 47 = .ok (.iconst 0, 1) := by decide +kernel
theorem dX7_goOn_48 : decode cX7_goOn 48 = .ok (.putfield 105, 3) := by decide +kernel
theorem dX7_goOn_51 : decode cX7_goOn 51 = .ok (.aload_n 0, 1) := by decide +kernel
theorem dX7_goOn_52 : decode cX7_goOn 52 = .ok (.iconst 0, 1) := by decide +kernel
theorem dX7_goOn_53 : decode cX7_goOn 53 = .ok (.invokevirtual 94, 3) := by decide +kernel
theorem dX7_goOn_56 : decode cX7_goOn 56 = .ok (.istore_n 1, 1) := by decide +kernel
theorem dX7_goOn_57 : decode cX7_goOn 57 = .ok (.iconst 0, 1) := by decide +kernel
theorem dX7_goOn_58 : decode cX7_goOn 58 = .ok (.istore_n 2, 1) := by decide +kernel
theorem dX7_goOn_59 : decode cX7_goOn 59 = .ok (.iload_n 1, 1) := by decide +kernel
theorem dX7_goOn_60 : decode cX7_goOn 60 = .ok (.ifCond .ge 9, 3) := by decide +kernel
theorem dX7_goOn_63 : decode cX7_goOn 63 = .ok (.aload_n 0, 1) := by decide +kernel
theorem dX7_goOn_64 : decode cX7_goOn 64 = .ok (.iconst 0, 1) := by decide +kernel
theorem dX7_goOn_65 : decode cX7_goOn 65 = .ok (.putfield 108, 3) := by decide +kernel
theorem dX7_goOn_68 : decode cX7_goOn 68 = .ok (.return_, 1) := by decide +kernel
theorem dX7_goOn_69 : decode cX7_goOn 69 = .ok (.iload_n 1, 1) := by decide +kernel
theorem dX7_goOn_70 : decode cX7_goOn 70 = .ok (.invokestatic 111, 3) := by decide +kernel
theorem dX7_goOn_73 : decode cX7_goOn 73 = .ok (.ifCond .eq 66, 3) := by decide +kernel
theorem dX7_goOn_76 : decode cX7_goOn 76 = .ok (.aload_n 0, 1) := by decide +kernel
theorem dX7_goOn_77 : decode cX7_goOn 77 = .ok (.iload_n 2, 1) := by decide +kernel
theorem dX7_goOn_78 : decode cX7_goOn 78 = .ok (.invokevirtual 94, 3) := by decide +kernel
theorem dX7_goOn_81 : decode cX7_goOn 81 = .ok (.invokestatic 111, 3) := by decide +kernel
theorem dX7_goOn_84 : decode cX7_goOn 84 = .ok (.ifCond .eq 37, 3) := by decide +kernel
theorem dX7_goOn_87 : decode cX7_goOn 87 = .ok (.iload_n 2, 1) := by decide +kernel
theorem dX7_goOn_88 : decode cX7_goOn 88 = .ok (.bipush 8, 2) := by decide +kernel
theorem dX7_goOn_90 : decode cX7_goOn 90 = .ok (.if_icmp .ge 25, 3) := by decide +kernel
theorem dX7_goOn_93 : decode cX7_goOn 93 = .ok (.aload_n 0, 1) := by decide +kernel
theorem dX7_goOn_94 : decode cX7_goOn 94 = .ok (.aload_n 0, 1) := by decide +kernel
theorem dX7_goOn_95 : decode cX7_goOn 95 = .ok (.getfield 101, 3) := by decide +kernel
theorem dX7_goOn_98 : decode cX7_goOn 98 = .ok (.iconst 5, 1) := by decide +kernel
theorem dX7_goOn_99 : decode cX7_goOn 99 = .ok (.lshl, 1) := by decide +kernel
theorem dX7_goOn_100 : decode cX7_goOn 100 = .ok (.aload_n 0, 1) := by decide +kernel
theorem dX7_goOn_101 : decode cX7_goOn 101 = .ok (.iload_n 2, 1) := by decide +kernel
theorem dX7_goOn_102 : decode cX7_goOn 102 = .ok (.invokevirtual 94, 3) := by decide +kernel
theorem dX7_goOn_105 : decode cX7_goOn 105 = .ok (.bipush 97, 2) := by decide +kernel
theorem dX7_goOn_107 : decode cX7_goOn 107 = .ok (.isub, 1) := by decide +kernel
theorem dX7_goOn_108 : decode cX7_goOn 108 = .ok (.iconst 1, 1) := by decide +kernel
theorem dX7_goOn_109 : decode cX7_goOn 109 = .ok (.iadd, 1) := by decide +kernel
theorem dX7_goOn_110 : decode cX7_goOn 110 = .ok (.i2l, 1) := by decide +kernel
theorem dX7_goOn_111 : decode cX7_goOn 111 = .ok (.lor, 1) := by decide +kernel
theorem dX7_goOn_112 : decode cX7_goOn 112 = .ok (.putfield 101, 3) := by decide +kernel
theorem dX7_goOn_115 : decode cX7_goOn 115 = .ok (.iinc 2 1, 3) := by decide +kernel
theorem dX7_goOn_118 : decode cX7_goOn 118 = .ok (.goto (-42), 3) := by decide +kernel
theorem dX7_goOn_121 : decode cX7_goOn 121 = .ok (.aload_n 0, 1) := by decide +kernel
theorem dX7_goOn_122 : decode cX7_goOn 122 = .ok (.iload_n 2, 1) := by decide +kernel
theorem dX7_goOn_123 : decode cX7_goOn 123 = .ok (.bipush 8, 2) := by decide +kernel
theorem dX7_goOn_125 : decode cX7_goOn 125 = .ok (.if_icmp .le 7, 3) := by decide +kernel
theorem dX7_goOn_128 : decode cX7_goOn 128 = .ok (.iconst 4, 1) := by decide +kernel
theorem dX7_goOn_129 : decode cX7_goOn 129 = .ok (.goto 4, 3) := by decide +kernel
theorem dX7_goOn_132 : decode cX7_goOn 132 = .ok (.iconst 1, 1) := by decide +kernel
theorem dX7_goOn_133 : decode cX7_goOn 133 = .ok (.putfield 108, 3) := by decide +kernel
theorem dX7_goOn_136 : decode cX7_goOn 136 = .ok (.goto 103, 3) := by decide +kernel
theorem dX7_goOn_139 : decode cX7_goOn 139 = .ok (.iload_n 1, 1) := by decide +kernel
theorem dX7_goOn_140 : decode cX7_goOn 140 = .ok (.invokestatic 115, 3) := by decide +kernel
theorem dX7_goOn_143 : decode cX7_goOn 143 = .ok (.ifCond .eq 62, 3) := by decide +kernel
theorem dX7_goOn_146 : decode cX7_goOn 146 = .ok (.aload_n 0, 1) := by decide +kernel
theorem dX7_goOn_147 : decode cX7_goOn 147 = .ok (.iload_n 2, 1) := by decide +kernel
theorem dX7_goOn_148 : decode cX7_goOn 148 = .ok (.invokevirtual 94, 3) := by decide +kernel
theorem dX7_goOn_151 : decode cX7_goOn 151 = .ok (.invokestatic 115, 3) := by decide +kernel
theorem dX7_goOn_154 : decode cX7_goOn 154 = .ok (.ifCond .eq 34, 3) := by decide +kernel
theorem dX7_goOn_157 : decode cX7_goOn 157 = .ok (.iload_n 2, 1) := by decide +kernel
theorem dX7_goOn_158 : decode cX7_goOn 158 = .ok (.iconst 3, 1) := by decide +kernel
theorem dX7_goOn_159 : decode cX7_goOn 159 = .ok (.if_icmp .ge 23, 3) := by decide +kernel
theorem dX7_goOn_162 : decode cX7_goOn 162 = .ok (.aload_n 0, 1) := by decide +kernel
theorem dX7_goOn_163 : decode cX7_goOn 163 = .ok (.bipush 10, 2) := by decide +kernel
theorem dX7_goOn_165 : decode cX7_goOn 165 = .ok (.aload_n 0, 1) := by decide +kernel
theorem dX7_goOn_166 : decode cX7_goOn 166 = .ok (.getfield 105, 3) := by decide +kernel
theorem dX7_goOn_169 : decode cX7_goOn 169 = .ok (.imul, 1) := by decide +kernel
theorem dX7_goOn_170 : decode cX7_goOn 170 = .ok (.aload_n 0, 1) := by decide +kernel
theorem dX7_goOn_171 : decode cX7_goOn 171 = .ok (.iload_n 2, 1) := by decide +kernel
theorem dX7_goOn_172 : decode cX7_goOn 172 = .ok (.invokevirtual 94, 3) := by decide +kernel
theorem dX7_goOn_175 : decode cX7_goOn 175 = .ok (.iadd, 1) := by decide +kernel
theorem dX7_goOn_176 : decode cX7_goOn 176 = .ok (.bipush 48, 2) := by decide +kernel
theorem dX7_goOn_178 : decode cX7_goOn 178 = .ok (.isub, 1) := by decide +kernel
theorem dX7_goOn_179 : decode cX7_goOn 179 = .ok (.putfield 105, 3) := by decide +kernel
theorem dX7_goOn_182 : decode cX7_goOn 182 = .ok (.iinc 2 1, 3) := by decide +kernel
theorem dX7_goOn_185 : decode cX7_goOn 185 = .ok (.goto (-39), 3) := by decide +kernel
theorem dX7_goOn_188 : decode cX7_goOn 188 = .ok (.aload_n 0, 1) := by decide +kernel
theorem dX7_goOn_189 : decode cX7_goOn 189 = .ok (.iload_n 2, 1) := by decide +kernel
theorem dX7_goOn_190 : decode cX7_goOn 190 = .ok (.iconst 3, 1) := by decide +kernel
theorem dX7_goOn_191 : decode cX7_goOn 191 = .ok (.if_icmp .le 7, 3) := by decide +kernel
theorem dX7_goOn_194 : decode cX7_goOn 194 = .ok (.iconst 4, 1) := by decide +kernel
theorem dX7_goOn_195 : decode cX7_goOn 195 = .ok (.goto 4, 3) := by decide +kernel
theorem dX7_goOn_198 : decode cX7_goOn 198 = .ok (.iconst 2, 1) := by decide +kernel
theorem dX7_goOn_199 : decode cX7_goOn 199 = .ok (.putfield 108, 3) := by decide +kernel
theorem dX7_goOn_202 : decode cX7_goOn 202 = .ok (.goto 37, 3) := by decide +kernel
theorem dX7_goOn_205 : decode cX7_goOn 205 = .ok (.aload_n 0, 1) := by decide +kernel
theorem dX7_goOn_206 : decode cX7_goOn 206 = .ok (.iload_n 1, 1) := by decide +kernel
theorem dX7_goOn_207 : decode cX7_goOn 207 = .ok (.bipush 59, 2) := by decide +kernel
theorem dX7_goOn_209 : decode cX7_goOn 209 = .ok (.if_icmp .eq 15, 3) := by decide +kernel
theorem dX7_goOn_212 : decode cX7_goOn 212 = .ok (.iload_n 1, 1) := by decide +kernel
theorem dX7_goOn_213 : decode cX7_goOn 213 = .ok (.bipush 40, 2) := by decide +kernel
theorem dX7_goOn_215 : decode cX7_goOn 215 = .ok (.if_icmp .eq 9, 3) := by decide +kernel
theorem dX7_goOn_218 : decode cX7_goOn 218 = .ok (.iload_n 1, 1) := by decide +kernel
theorem dX7_goOn_219 : decode cX7_goOn 219 = .ok (.bipush 41, 2) := by decide +kernel
theorem dX7_goOn_221 : decode cX7_goOn 221 = .ok (.if_icmp .ne 7, 3) := by decide +kernel
theorem dX7_goOn_224 : decode cX7_goOn 224 = .ok (.iconst 3, 1) := by decide +kernel
theorem dX7_goOn_225 : decode cX7_goOn 225 = .ok (.goto 4, 3) := by decide +kernel
theorem dX7_goOn_228 : decode cX7_goOn 228 = .ok (.iconst 4, 1) := by decide +kernel
theorem dX7_goOn_229 : decode cX7_goOn 229 = .ok (.putfield 108, 3) := by decide +kernel
theorem dX7_goOn_232 : decode cX7_goOn 232 = .ok (.aload_n 0, 1) := by decide +kernel
theorem dX7_goOn_233 : decode cX7_goOn 233 = .ok (.iload_n 1, 1) := by decide +kernel
theorem dX7_goOn_234 : decode cX7_goOn 234 = .ok (.putfield 105, 3) := by decide +kernel
theorem dX7_goOn_237 : decode cX7_goOn 237 = .ok (.iconst 1, 1) := by decide +kernel
theorem dX7_goOn_238 : decode cX7_goOn 238 = .ok (.istore_n 2, 1) := by decide +kernel
theorem dX7_goOn_239 : decode cX7_goOn 239 = .ok (.aload_n 0, 1) := by decide +kernel
theorem dX7_goOn_240 : decode cX7_goOn 240 = .ok (.dup, 1) := by decide +kernel
theorem dX7_goOn_241 : decode cX7_goOn 241 = .ok (.getfield 88, 3) := by decide +kernel
theorem dX7_goOn_244 : decode cX7_goOn 244 = .ok (.iload_n 2, 1) := by decide +kernel
theorem dX7_goOn_245 : decode cX7_goOn 245 = .ok (.iadd, 1) := by decide +kernel
theorem dX7_goOn_246 : decode cX7_goOn 246 = .ok (.putfield 88, 3) := by decide +kernel
theorem dX7_goOn_249 : decode cX7_goOn 249 = .ok (.return_, 1) := by decide +kernel
theorem dX7_wrong_0 : decode cX7_wrong 0 = .ok (.aload_n 0, 1) := by decide +kernel
theorem dX7_wrong_1 : decode cX7_wrong 1 = .ok (.getfield 118, 3) := by decide +kernel
theorem dX7_wrong_4 : decode cX7_wrong 4 = .ok (.ifCond .le 4, 3) := by decide +kernel
theorem dX7_wrong_7 : decode cX7_wrong 7 = .ok (.return_, 1) := by decide +kernel
theorem dX7_wrong_8 : decode cX7_wrong 8 = .ok (.aload_n 0, 1) := by decide +kernel
theorem dX7_wrong_9 : decode cX7_wrong 9 = .ok (.aload_n 0, 1) := by decide +kernel
theorem dX7_wrong_10 : decode cX7_wrong 10 = .ok (.getfield 108, 3) := by decide +kernel
theorem dX7_wrong_13 : decode cX7_wrong 13 = .ok (.iconst 4, 1) := by decide +kernel
theorem dX7_wrong_14 : decode cX7_wrong 14 = .ok (.if_icmp .ne 7, 3) := by decide +kernel
theorem dX7_wrong_17 : decode cX7_wrong 17 = .ok (.iconst 1, 1) := by decide +kernel
theorem dX7_wrong_18 : decode cX7_wrong 18 = .ok (.goto 4, 3) := by decide +kernel
theorem dX7_wrong_21 : decode cX7_wrong 21 = .ok (.iload_n 1, 1) := by decide +kernel
theorem dX7_wrong_22 : decode cX7_wrong 22 = .ok (.putfield 118, 3) := by decide +kernel
theorem dX7_wrong_25 : decode cX7_wrong 25 = .ok (.aload_n 0, 1) := by decide +kernel
theorem dX7_wrong_26 : decode cX7_wrong 26 = .ok (.aload_n 0, 1) := by decide +kernel
theorem dX7_wrong_27 : decode cX7_wrong 27 = .ok (.getfield 98, 3) := by decide +kernel
theorem dX7_wrong_30 : decode cX7_wrong 30 = .ok (.putfield 13, 3) := by decide +kernel
theorem dX7_wrong_33 : decode cX7_wrong 33 = .ok (.return_, 1) := by decide +kernel
theorem dX7_isGood_0 : decode cX7_isGood 0 = .ok (.aload_n 0, 1) := by decide +kernel
theorem dX7_isGood_1 : decode cX7_isGood 1 = .ok (.getfield 118, 3) := by decide +kernel
theorem dX7_isGood_4 : decode cX7_isGood 4 = .ok (.ifCond .ne 7, 3) := by decide +kernel
theorem dX7_isGood_7 : decode cX7_isGood 7 = .ok (.iconst 1, 1) := by decide +kernel
theorem dX7_isGood_8 : decode cX7_isGood 8 = .ok (.goto 4, 3) := by decide +kernel
theorem dX7_isGood_11 : decode cX7_isGood 11 = .ok (.iconst 0, 1) := by decide +kernel
theorem dX7_isGood_12 : decode cX7_isGood 12 = .ok (.ireturn, 1) := by decide +kernel
theorem dX7_isWord_0 : decode cX7_isWord 0 = .ok (.aload_n 0, 1) := by decide +kernel
theorem dX7_isWord_1 : decode cX7_isWord 1 = .ok (.getfield 118, 3) := by decide +kernel
theorem dX7_isWord_4 : decode cX7_isWord 4 = .ok (.ifCond .ne 24, 3) := by decide +kernel
theorem dX7_isWord_7 : decode cX7_isWord 7 = .ok (.aload_n 0, 1) := by decide +kernel
theorem dX7_isWord_8 : decode cX7_isWord 8 = .ok (.getfield 108, 3) := by decide +kernel
theorem dX7_isWord_11 : decode cX7_isWord 11 = .ok (.iconst 1, 1) := by decide +kernel
theorem dX7_isWord_12 : decode cX7_isWord 12 = .ok (.if_icmp .ne 16, 3) := by decide +kernel
theorem dX7_isWord_15 : decode cX7_isWord 15 = .ok (.aload_n 0, 1) := by decide +kernel
theorem dX7_isWord_16 : decode cX7_isWord 16 = .ok (.getfield 101, 3) := by decide +kernel
theorem dX7_isWord_19 : decode cX7_isWord 19 = .ok (.lload_n 1, 1) := by decide +kernel
theorem dX7_isWord_20 : decode cX7_isWord 20 = .ok (.lcmp, 1) := by decide +kernel
theorem dX7_isWord_21 : decode cX7_isWord 21 = .ok (.ifCond .ne 7, 3) := by decide +kernel
theorem dX7_isWord_24 : decode cX7_isWord 24 = .ok (.iconst 1, 1) := by decide +kernel
theorem dX7_isWord_25 : decode cX7_isWord 25 = .ok (.goto 4, 3) := by decide +kernel
theorem dX7_isWord_28 : decode cX7_isWord 28 = .ok (.iconst 0, 1) := by decide +kernel
theorem dX7_isWord_29 : decode cX7_isWord 29 = .ok (.ireturn, 1) := by decide +kernel
theorem dX7_isSign_0 : decode cX7_isSign 0 = .ok (.aload_n 0, 1) := by decide +kernel
theorem dX7_isSign_1 : decode cX7_isSign 1 = .ok (.getfield 118, 3) := by decide +kernel
theorem dX7_isSign_4 : decode cX7_isSign 4 = .ok (.ifCond .ne 23, 3) := by decide +kernel
theorem dX7_isSign_7 : decode cX7_isSign 7 = .ok (.aload_n 0, 1) := by decide +kernel
theorem dX7_isSign_8 : decode cX7_isSign 8 = .ok (.getfield 108, 3) := by decide +kernel
theorem dX7_isSign_11 : decode cX7_isSign 11 = .ok (.iconst 3, 1) := by decide +kernel
theorem dX7_isSign_12 : decode cX7_isSign 12 = .ok (.if_icmp .ne 15, 3) := by decide +kernel
theorem dX7_isSign_15 : decode cX7_isSign 15 = .ok (.aload_n 0, 1) := by decide +kernel
theorem dX7_isSign_16 : decode cX7_isSign 16 = .ok (.getfield 105, 3) := by decide +kernel
theorem dX7_isSign_19 : decode cX7_isSign 19 = .ok (.iload_n 1, 1) := by decide +kernel
theorem dX7_isSign_20 : decode cX7_isSign 20 = .ok (.if_icmp .ne 7, 3) := by decide +kernel
theorem dX7_isSign_23 : decode cX7_isSign 23 = .ok (.iconst 1, 1) := by decide +kernel
theorem dX7_isSign_24 : decode cX7_isSign 24 = .ok (.goto 4, 3) := by decide +kernel
theorem dX7_isSign_27 : decode cX7_isSign 27 = .ok (.iconst 0, 1) := by decide +kernel
theorem dX7_isSign_28 : decode cX7_isSign 28 = .ok (.ireturn, 1) := by decide +kernel
theorem dX7_mustSign_0 : decode cX7_mustSign 0 = .ok (.aload_n 0, 1) := by decide +kernel
theorem dX7_mustSign_1 : decode cX7_mustSign 1 = .ok (.invokevirtual 121, 3) := by decide +kernel
theorem dX7_mustSign_4 : decode cX7_mustSign 4 = .ok (.ifCond .eq 16, 3) := by decide +kernel
theorem dX7_mustSign_7 : decode cX7_mustSign 7 = .ok (.aload_n 0, 1) := by decide +kernel
theorem dX7_mustSign_8 : decode cX7_mustSign 8 = .ok (.iload_n 1, 1) := by decide +kernel
theorem dX7_mustSign_9 : decode cX7_mustSign 9 = .ok (.invokevirtual 125, 3) := by decide +kernel
theorem dX7_mustSign_12 : decode cX7_mustSign 12 = .ok (.ifCond .ne 8, 3) := by decide +kernel
theorem dX7_mustSign_15 : decode cX7_mustSign 15 = .ok (.aload_n 0, 1) := by decide +kernel
theorem dX7_mustSign_16 : decode cX7_mustSign 16 = .ok (.iconst 1, 1) := by decide +kernel
theorem dX7_mustSign_17 : decode cX7_mustSign 17 = .ok (.invokevirtual 128, 3) := by decide +kernel
theorem dX7_mustSign_20 : decode cX7_mustSign 20 = .ok (.aload_n 0, 1) := by decide +kernel
theorem dX7_mustSign_21 : decode cX7_mustSign 21 = .ok (.invokevirtual 121, 3) := by decide +kernel
theorem dX7_mustSign_24 : decode cX7_mustSign 24 = .ok (.ifCond .eq 7, 3) := by decide +kernel
theorem dX7_mustSign_27 : decode cX7_mustSign 27 = .ok (.aload_n 0, 1) := by decide +kernel
theorem dX7_mustSign_28 : decode cX7_mustSign 28 = .ok (.invokevirtual 131, 3) := by decide +kernel
theorem dX7_mustSign_31 : decode cX7_mustSign 31 = .ok (.return_, 1) := by decide +kernel
theorem dX7_mustWord_0 : decode cX7_mustWord 0 = .ok (.aload_n 0, 1) := by decide +kernel
theorem dX7_mustWord_1 : decode cX7_mustWord 1 = .ok (.invokevirtual 121, 3) := by decide +kernel
theorem dX7_mustWord_4 : decode cX7_mustWord 4 = .ok (.ifCond .eq 16, 3) := by decide +kernel
theorem dX7_mustWord_7 : decode cX7_mustWord 7 = .ok (.aload_n 0, 1) := by decide +kernel
theorem dX7_mustWord_8 : decode cX7_mustWord 8 = .ok (.lload_n 1, 1) := by decide +kernel
theorem dX7_mustWord_9 : decode cX7_mustWord 9 = .ok (.invokevirtual 134, 3) := by decide +kernel
theorem dX7_mustWord_12 : decode cX7_mustWord 12 = .ok (.ifCond .ne 8, 3) := by decide +kernel
theorem dX7_mustWord_15 : decode cX7_mustWord 15 = .ok (.aload_n 0, 1) := by decide +kernel
theorem dX7_mustWord_16 : decode cX7_mustWord 16 = .ok (.iconst 1, 1) := by decide +kernel
theorem dX7_mustWord_17 : decode cX7_mustWord 17 = .ok (.invokevirtual 128, 3) := by decide +kernel
theorem dX7_mustWord_20 : decode cX7_mustWord 20 = .ok (.aload_n 0, 1) := by decide +kernel
theorem dX7_mustWord_21 : decode cX7_mustWord 21 = .ok (.invokevirtual 121, 3) := by decide +kernel
theorem dX7_mustWord_24 : decode cX7_mustWord 24 = .ok (.ifCond .eq 7, 3) := by decide +kernel
theorem dX7_mustWord_27 : decode cX7_mustWord 27 = .ok (.aload_n 0, 1) := by decide +kernel
theorem dX7_mustWord_28 : decode cX7_mustWord 28 = .ok (.invokevirtual 131, 3) := by decide +kernel
theorem dX7_mustWord_31 : decode cX7_mustWord 31 = .ok (.return_, 1) := by decide +kernel
theorem dX7_looks_0 : decode cX7_looks 0 = .ok (.aload_n 0, 1) := by decide +kernel
theorem dX7_looks_1 : decode cX7_looks 1 = .ok (.invokevirtual 121, 3) := by decide +kernel
theorem dX7_looks_4 : decode cX7_looks 4 = .ok (.ifCond .eq 16, 3) := by decide +kernel
theorem dX7_looks_7 : decode cX7_looks 7 = .ok (.aload_n 0, 1) := by decide +kernel
theorem dX7_looks_8 : decode cX7_looks 8 = .ok (.getfield 108, 3) := by decide +kernel
theorem dX7_looks_11 : decode cX7_looks 11 = .ok (.iconst 2, 1) := by decide +kernel
theorem dX7_looks_12 : decode cX7_looks 12 = .ok (.if_icmp .eq 8, 3) := by decide +kernel
theorem dX7_looks_15 : decode cX7_looks 15 = .ok (.aload_n 0, 1) := by decide +kernel
theorem dX7_looks_16 : decode cX7_looks 16 = .ok (.iconst 1, 1) := by decide +kernel
theorem dX7_looks_17 : decode cX7_looks 17 = .ok (.invokevirtual 128, 3) := by decide +kernel
theorem dX7_looks_20 : decode cX7_looks 20 = .ok (.aload_n 0, 1) := by decide +kernel
theorem dX7_looks_21 : decode cX7_looks 21 = .ok (.invokevirtual 121, 3) := by decide +kernel
theorem dX7_looks_24 : decode cX7_looks 24 = .ok (.ifCond .eq 23, 3) := by decide +kernel
theorem dX7_looks_27 : decode cX7_looks 27 = .ok (.aload_n 0, 1) := by decide +kernel
theorem dX7_looks_28 : decode cX7_looks 28 = .ok (.getfield 105, 3) := by decide +kernel
theorem dX7_looks_31 : decode cX7_looks 31 = .ok (.i2l, 1) := by decide +kernel
theorem dX7_looks_32 : decode cX7_looks 32 = .ok (.iload_n 1, 1) := by decide +kernel
theorem dX7_looks_33 : decode cX7_looks 33 = .ok (.i2l, 1) := by decide +kernel
theorem dX7_looks_34 : decode cX7_looks 34 = .ok (.iload_n 2, 1) := by decide +kernel
theorem dX7_looks_35 : decode cX7_looks 35 = .ok (.i2l, 1) := by decide +kernel
theorem dX7_looks_36 : decode cX7_looks 36 = .ok (.invokestatic 84, 3) := by decide +kernel
theorem dX7_looks_39 : decode cX7_looks 39 = .ok (.ifCond .ne 8, 3) := by decide +kernel
theorem dX7_looks_42 : decode cX7_looks 42 = .ok (.aload_n 0, 1) := by decide +kernel
theorem dX7_looks_43 : decode cX7_looks 43 = .ok (.iconst 2, 1) := by decide +kernel
theorem dX7_looks_44 : decode cX7_looks 44 = .ok (.invokevirtual 128, 3) := by decide +kernel
theorem dX7_looks_47 : decode cX7_looks 47 = .ok (.aload_n 0, 1) := by decide +kernel
theorem dX7_looks_48 : decode cX7_looks 48 = .ok (.getfield 105, 3) := by decide +kernel
theorem dX7_looks_51 : decode cX7_looks 51 = .ok (.ireturn, 1) := by decide +kernel
theorem dX7_number_0 : decode cX7_number 0 = .ok (.aload_n 0, 1) := by decide +kernel
theorem dX7_number_1 : decode cX7_number 1 = .ok (.iload_n 1, 1) := by decide +kernel
theorem dX7_number_2 : decode cX7_number 2 = .ok (.iload_n 2, 1) := by decide +kernel
theorem dX7_number_3 : decode cX7_number 3 = .ok (.invokevirtual 138, 3) := by decide +kernel
theorem dX7_number_6 : decode cX7_number 6 = .ok (.istore_n 3, 1) := by decide +kernel
theorem dX7_number_7 : decode cX7_number 7 = .ok (.aload_n 0, 1) := by decide +kernel
theorem dX7_number_8 : decode cX7_number 8 = .ok (.invokevirtual 121, 3) := by decide +kernel
theorem dX7_number_11 : decode cX7_number 11 = .ok (.ifCond .eq 7, 3) := by decide +kernel
theorem dX7_number_14 : decode cX7_number 14 = .ok (.aload_n 0, 1) := by decide +kernel
theorem dX7_number_15 : decode cX7_number 15 = .ok (.invokevirtual 131, 3) := by decide +kernel
theorem dX7_number_18 : decode cX7_number 18 = .ok (.iload_n 3, 1) := by decide +kernel
theorem dX7_number_19 : decode cX7_number 19 = .ok (.ireturn, 1) := by decide +kernel
theorem dX7_beginsText_0 : decode cX7_beginsText 0 = .ok (.aload_n 0, 1) := by decide +kernel
theorem dX7_beginsText_1 : decode cX7_beginsText 1 = .ok (.aload_n 0, 1) := by decide +kernel
theorem dX7_beginsText_2 : decode cX7_beginsText 2 = .ok (.getfield 73, 3) := by decide +kernel
theorem dX7_beginsText_5 : decode cX7_beginsText 5 = .ok (.putfield 91, 3) := by decide +kernel
theorem dX7_beginsText_8 : decode cX7_beginsText 8 = .ok (.aload_n 0, 1) := by decide +kernel
theorem dX7_beginsText_9 : decode cX7_beginsText 9 = .ok (.iconst 0, 1) := by decide +kernel
theorem dX7_beginsText_10 : decode cX7_beginsText 10 = .ok (.putfield 73, 3) := by decide +kernel
theorem dX7_beginsText_13 : decode cX7_beginsText 13 = .ok (.aload_n 0, 1) := by decide +kernel
theorem dX7_beginsText_14 : decode cX7_beginsText 14 = .ok (.iconst 0, 1) := by decide +kernel
theorem dX7_beginsText_15 : decode cX7_beginsText 15 = .ok (.putfield 88, 3) := by decide +kernel
theorem dX7_beginsText_18 : decode cX7_beginsText 18 = .ok (.aload_n 0, 1) := by decide +kernel
theorem dX7_beginsText_19 : decode cX7_beginsText 19 = .ok (.iconst 0, 1) := by decide +kernel
theorem dX7_beginsText_20 : decode cX7_beginsText 20 = .ok (.putfield 118, 3) := by decide +kernel
theorem dX7_beginsText_23 : decode cX7_beginsText 23 = .ok (.aload_n 0, 1) := by decide +kernel
theorem dX7_beginsText_24 : decode cX7_beginsText 24 = .ok (.iconst (-1), 1) := by decide +kernel
theorem dX7_beginsText_25 : decode cX7_beginsText 25 = .ok (.putfield 13, 3) := by decide +kernel
theorem dX7_beginsText_28 : decode cX7_beginsText 28 = .ok (.aload_n 0, 1) := by decide +kernel
theorem dX7_beginsText_29 : decode cX7_beginsText 29 = .ok (.invokevirtual 131, 3) := by decide +kernel
theorem dX7_beginsText_32 : decode cX7_beginsText 32 = .ok (.return_, 1) := by decide +kernel
theorem dX7_endsText_0 : decode cX7_endsText 0 = .ok (.aload_n 0, 1) := by decide +kernel
theorem dX7_endsText_1 : decode cX7_endsText 1 = .ok (.aload_n 0, 1) := by decide +kernel
theorem dX7_endsText_2 : decode cX7_endsText 2 = .ok (.getfield 118, 3) := by decide +kernel
theorem dX7_endsText_5 : decode cX7_endsText 5 = .ok (.putfield 142, 3) := by decide +kernel
theorem dX7_endsText_8 : decode cX7_endsText 8 = .ok (.aload_n 0, 1) := by decide +kernel
theorem dX7_endsText_9 : decode cX7_endsText 9 = .ok (.aload_n 0, 1) := by decide +kernel
theorem dX7_endsText_10 : decode cX7_endsText 10 = .ok (.getfield 13, 3) := by decide +kernel
theorem dX7_endsText_13 : decode cX7_endsText 13 = .ok (.putfield 17, 3) := by decide +kernel
theorem dX7_endsText_16 : decode cX7_endsText 16 = .ok (.aload_n 0, 1) := by decide +kernel
theorem dX7_endsText_17 : decode cX7_endsText 17 = .ok (.aload_n 0, 1) := by decide +kernel
theorem dX7_endsText_18 : decode cX7_endsText 18 = .ok (.getfield 118, 3) := by decide +kernel
theorem dX7_endsText_21 : decode cX7_endsText 21 = .ok (.ifCond .ne 7, 3) := by decide +kernel
theorem dX7_endsText_24 : decode cX7_endsText 24 = .ok (.iconst 1, 1) := by decide +kernel
theorem dX7_endsText_25 : decode cX7_endsText 25 = .ok (.goto 4, 3) := by decide +kernel
theorem dX7_endsText_28 : decode cX7_endsText 28 = .ok (.iconst 0, 1) := by decide +kernel
theorem dX7_endsText_29 : decode cX7_endsText 29 = .ok (.invokevirtual 76, 3) := by decide +kernel
theorem dX7_endsText_32 : decode cX7_endsText 32 = .ok (.ireturn, 1) := by decide +kernel
theorem dX7_errorCode_0 : decode cX7_errorCode 0 = .ok (.aload_n 0, 1) := by decide +kernel
theorem dX7_errorCode_1 : decode cX7_errorCode 1 = .ok (.iconst 0, 1) := by decide +kernel
theorem dX7_errorCode_2 : decode cX7_errorCode 2 = .ok (.putfield 66, 3) := by decide +kernel
theorem dX7_errorCode_5 : decode cX7_errorCode 5 = .ok (.aload_n 0, 1) := by decide +kernel
theorem dX7_errorCode_6 : decode cX7_errorCode 6 = .ok (.getfield 142, 3) := by decide +kernel
theorem dX7_errorCode_9 : decode cX7_errorCode 9 = .ok (.ireturn, 1) := by decide +kernel
theorem dX7_errorPosition_0 : decode cX7_errorPosition 0 = .ok (.aload_n 0, 1) := by decide +kernel
theorem dX7_errorPosition_1 : decode cX7_errorPosition 1 = .ok (.iconst 0, 1) := by decide +kernel
theorem dX7_errorPosition_2 : decode cX7_errorPosition 2 = .ok (.putfield 66, 3) := by decide +kernel
theorem dX7_errorPosition_5 : decode cX7_errorPosition 5 = .ok (.aload_n 0, 1) := by decide +kernel
theorem dX7_errorPosition_6 : decode cX7_errorPosition 6 = .ok (.getfield 17, 3) := by decide +kernel
theorem dX7_errorPosition_9 : decode cX7_errorPosition 9 = .ok (.ireturn, 1) := by decide +kernel
theorem dX7_copiesRow_0 : decode cX7_copiesRow 0 = .ok (.iconst 0, 1) := by decide +kernel
theorem dX7_copiesRow_1 : decode cX7_copiesRow 1 = .ok (.istore 4, 2) := by decide +kernel
theorem dX7_copiesRow_3 : decode cX7_copiesRow 3 = .ok (.iload 4, 2) := by decide +kernel
theorem dX7_copiesRow_5 : decode cX7_copiesRow 5 = .ok (.sipush 365, 3) := by decide +kernel
theorem dX7_copiesRow_8 : decode cX7_copiesRow 8 = .ok (.if_icmp .ge 21, 3) := by decide +kernel
theorem dX7_copiesRow_11 : decode cX7_copiesRow 11 = .ok (.aload_n 2, 1) := by decide +kernel
theorem dX7_copiesRow_12 : decode cX7_copiesRow 12 = .ok (.iload_n 3, 1) := by decide +kernel
theorem dX7_copiesRow_13 : decode cX7_copiesRow 13 = .ok (.iload 4, 2) := by decide +kernel
theorem dX7_copiesRow_15 : decode cX7_copiesRow 15 = .ok (.iadd, 1) := by decide +kernel
theorem dX7_copiesRow_16 : decode cX7_copiesRow 16 = .ok (.aload_n 0, 1) := by decide +kernel
theorem dX7_copiesRow_17 : decode cX7_copiesRow 17 = .ok (.iload_n 1, 1) := by decide +kernel
theorem dX7_copiesRow_18 : decode cX7_copiesRow 18 = .ok (.iload 4, 2) := by decide +kernel
theorem dX7_copiesRow_20 : decode cX7_copiesRow 20 = .ok (.iadd, 1) := by decide +kernel
theorem dX7_copiesRow_21 : decode cX7_copiesRow 21 = .ok (.iaload, 1) := by decide +kernel
theorem dX7_copiesRow_22 : decode cX7_copiesRow 22 = .ok (.iastore, 1) := by decide +kernel
theorem dX7_copiesRow_23 : decode cX7_copiesRow 23 = .ok (.iinc 4 1, 3) := by decide +kernel
theorem dX7_copiesRow_26 : decode cX7_copiesRow 26 = .ok (.goto (-23), 3) := by decide +kernel
theorem dX7_copiesRow_29 : decode cX7_copiesRow 29 = .ok (.return_, 1) := by decide +kernel
theorem dX7_copiesNames_0 : decode cX7_copiesNames 0 = .ok (.iconst 0, 1) := by decide +kernel
theorem dX7_copiesNames_1 : decode cX7_copiesNames 1 = .ok (.istore_n 2, 1) := by decide +kernel
theorem dX7_copiesNames_2 : decode cX7_copiesNames 2 = .ok (.iload_n 2, 1) := by decide +kernel
theorem dX7_copiesNames_3 : decode cX7_copiesNames 3 = .ok (.bipush 8, 2) := by decide +kernel
theorem dX7_copiesNames_5 : decode cX7_copiesNames 5 = .ok (.if_icmp .ge 15, 3) := by decide +kernel
theorem dX7_copiesNames_8 : decode cX7_copiesNames 8 = .ok (.aload_n 1, 1) := by decide +kernel
theorem dX7_copiesNames_9 : decode cX7_copiesNames 9 = .ok (.iload_n 2, 1) := by decide +kernel
theorem dX7_copiesNames_10 : decode cX7_copiesNames 10 = .ok (.aload_n 0, 1) := by decide +kernel
theorem dX7_copiesNames_11 : decode cX7_copiesNames 11 = .ok (.iload_n 2, 1) := by decide +kernel
theorem dX7_copiesNames_12 : decode cX7_copiesNames 12 = .ok (.laload, 1) := by decide +kernel
theorem dX7_copiesNames_13 : decode cX7_copiesNames 13 = .ok (.lastore, 1) := by decide +kernel
theorem dX7_copiesNames_14 : decode cX7_copiesNames 14 = .ok (.iinc 2 1, 3) := by decide +kernel
theorem dX7_copiesNames_17 : decode cX7_copiesNames 17 = .ok (.goto (-15), 3) := by decide +kernel
theorem dX7_copiesNames_20 : decode cX7_copiesNames 20 = .ok (.return_, 1) := by decide +kernel
theorem dX7_cellOf_0 : decode cX7_cellOf 0 = .ok (.bipush 21, 2) := by decide +kernel
theorem dX7_cellOf_2 : decode cX7_cellOf 2 = .ok (.bipush 43, 2) := by decide +kernel
theorem dX7_cellOf_4 : decode cX7_cellOf 4 = .ok (.iload_n 0, 1) := by decide +kernel
theorem dX7_cellOf_5 : decode cX7_cellOf 5 = .ok (.imul, 1) := by decide +kernel
theorem dX7_cellOf_6 : decode cX7_cellOf 6 = .ok (.iadd, 1) := by decide +kernel
theorem dX7_cellOf_7 : decode cX7_cellOf 7 = .ok (.iload_n 1, 1) := by decide +kernel
theorem dX7_cellOf_8 : decode cX7_cellOf 8 = .ok (.iadd, 1) := by decide +kernel
theorem dX7_cellOf_9 : decode cX7_cellOf 9 = .ok (.ireturn, 1) := by decide +kernel
theorem dX7_of_0 : decode cX7_of 0 = .ok (.aload_n 0, 1) := by decide +kernel
theorem dX7_of_1 : decode cX7_of 1 = .ok (.getfield 20, 3) := by decide +kernel
theorem dX7_of_4 : decode cX7_of 4 = .ok (.iload_n 1, 1) := by decide +kernel
theorem dX7_of_5 : decode cX7_of 5 = .ok (.iload_n 2, 1) := by decide +kernel
theorem dX7_of_6 : decode cX7_of 6 = .ok (.invokestatic 145, 3) := by decide +kernel
theorem dX7_of_9 : decode cX7_of 9 = .ok (.iaload, 1) := by decide +kernel
theorem dX7_of_10 : decode cX7_of 10 = .ok (.ireturn, 1) := by decide +kernel
theorem dX7_sets_0 : decode cX7_sets 0 = .ok (.aload_n 0, 1) := by decide +kernel
theorem dX7_sets_1 : decode cX7_sets 1 = .ok (.getfield 20, 3) := by decide +kernel
theorem dX7_sets_4 : decode cX7_sets 4 = .ok (.iload_n 1, 1) := by decide +kernel
theorem dX7_sets_5 : decode cX7_sets 5 = .ok (.iload_n 2, 1) := by decide +kernel
theorem dX7_sets_6 : decode cX7_sets 6 = .ok (.invokestatic 145, 3) := by decide +kernel
theorem dX7_sets_9 : decode cX7_sets 9 = .ok (.iload_n 3, 1) := by decide +kernel
theorem dX7_sets_10 : decode cX7_sets 10 = .ok (.iastore, 1) := by decide +kernel
theorem dX7_sets_11 : decode cX7_sets 11 = .ok (.return_, 1) := by decide +kernel
theorem dX7_adds_0 : decode cX7_adds 0 = .ok (.aload_n 0, 1) := by decide +kernel
theorem dX7_adds_1 : decode cX7_adds 1 = .ok (.getfield 20, 3) := by decide +kernel
theorem dX7_adds_4 : decode cX7_adds 4 = .ok (.iload_n 1, 1) := by decide +kernel
theorem dX7_adds_5 : decode cX7_adds 5 = .ok (.iload_n 2, 1) := by decide +kernel
theorem dX7_adds_6 : decode cX7_adds 6 = .ok (.invokestatic 145, 3) := by decide +kernel
theorem dX7_adds_9 : decode cX7_adds 9 = .ok (.dup2, 1) := by decide +kernel
theorem dX7_adds_10 : decode cX7_adds 10 = .ok (.iaload, 1) := by decide +kernel
theorem dX7_adds_11 : decode cX7_adds 11 = .ok (.iload_n 3, 1) := by decide +kernel
theorem dX7_adds_12 : decode cX7_adds 12 = .ok (.iadd, 1) := by decide +kernel
theorem dX7_adds_13 : decode cX7_adds 13 = .ok (.iastore, 1) := by decide +kernel
theorem dX7_adds_14 : decode cX7_adds 14 = .ok (.return_, 1) := by decide +kernel
theorem dX7_clears_0 : decode cX7_clears 0 = .ok (.iconst 0, 1) := by decide +kernel
theorem dX7_clears_1 : decode cX7_clears 1 = .ok (.istore_n 1, 1) := by decide +kernel
theorem dX7_clears_2 : decode cX7_clears 2 = .ok (.iload_n 1, 1) := by decide +kernel
theorem dX7_clears_3 : decode cX7_clears 3 = .ok (.sipush 365, 3) := by decide +kernel
theorem dX7_clears_6 : decode cX7_clears 6 = .ok (.if_icmp .ge 16, 3) := by decide +kernel
theorem dX7_clears_9 : decode cX7_clears 9 = .ok (.aload_n 0, 1) := by decide +kernel
theorem dX7_clears_10 : decode cX7_clears 10 = .ok (.getfield 20, 3) := by decide +kernel
theorem dX7_clears_13 : decode cX7_clears 13 = .ok (.iload_n 1, 1) := by decide +kernel
theorem dX7_clears_14 : decode cX7_clears 14 = .ok (.iconst 0, 1) := by decide +kernel
theorem dX7_clears_15 : decode cX7_clears 15 = .ok (.iastore, 1) := by decide +kernel
theorem dX7_clears_16 : decode cX7_clears 16 = .ok (.iinc 1 1, 3) := by decide +kernel
theorem dX7_clears_19 : decode cX7_clears 19 = .ok (.goto (-17), 3) := by decide +kernel
theorem dX7_clears_22 : decode cX7_clears 22 = .ok (.iconst 0, 1) := by decide +kernel
theorem dX7_clears_23 : decode cX7_clears 23 = .ok (.istore_n 1, 1) := by decide +kernel
theorem dX7_clears_24 : decode cX7_clears 24 = .ok (.iload_n 1, 1) := by decide +kernel
theorem dX7_clears_25 : decode cX7_clears 25 = .ok (.bipush 8, 2) := by decide +kernel
theorem dX7_clears_27 : decode cX7_clears 27 = .ok (.if_icmp .ge 50, 3) := by decide +kernel
theorem dX7_clears_30 : decode cX7_clears 30 = .ok (.aload_n 0, 1) := by decide +kernel
theorem dX7_clears_31 : decode cX7_clears 31 = .ok (.getfield 35, 3) := by decide +kernel
theorem dX7_clears_34 : decode cX7_clears 34 = .ok (.iload_n 1, 1) := by decide +kernel
theorem dX7_clears_35 : decode cX7_clears 35 = .ok (.lconst 0, 1) := by decide +kernel
theorem dX7_clears_36 : decode cX7_clears 36 = .ok (.lastore, 1) := by decide +kernel
theorem dX7_clears_37 : decode cX7_clears 37 = .ok (.iconst 0, 1) := by decide +kernel
theorem dX7_clears_38 : decode cX7_clears 38 = .ok (.istore_n 2, 1) := by decide +kernel
theorem dX7_clears_39 : decode cX7_clears 39 = .ok (.iload_n 2, 1) := by decide +kernel
theorem dX7_clears_40 : decode cX7_clears 40 = .ok (.bipush 8, 2) := by decide +kernel
theorem dX7_clears_42 : decode cX7_clears 42 = .ok (.if_icmp .ge 29, 3) := by decide +kernel
theorem dX7_clears_45 : decode cX7_clears 45 = .ok (.aload_n 0, 1) := by decide +kernel
theorem dX7_clears_46 : decode cX7_clears 46 = .ok (.iload_n 1, 1) := by decide +kernel
theorem dX7_clears_47 : decode cX7_clears 47 = .ok (.bipush 19, 2) := by decide +kernel
theorem dX7_clears_49 : decode cX7_clears 49 = .ok (.iload_n 2, 1) := by decide +kernel
theorem dX7_clears_50 : decode cX7_clears 50 = .ok (.iadd, 1) := by decide +kernel
theorem dX7_clears_51 : decode cX7_clears 51 = .ok (.iconst (-1), 1) := by decide +kernel
theorem dX7_clears_52 : decode cX7_clears 52 = .ok (.invokevirtual 148, 3) := by decide +kernel
theorem dX7_clears_55 : decode cX7_clears 55 = .ok (.aload_n 0, 1) := by decide +kernel
theorem dX7_clears_56 : decode cX7_clears 56 = .ok (.iload_n 1, 1) := by decide +kernel
theorem dX7_clears_57 : decode cX7_clears 57 = .ok (.bipush 35, 2) := by decide +kernel
theorem dX7_clears_59 : decode cX7_clears 59 = .ok (.iload_n 2, 1) := by decide +kernel
theorem dX7_clears_60 : decode cX7_clears 60 = .ok (.iadd, 1) := by decide +kernel
theorem dX7_clears_61 : decode cX7_clears 61 = .ok (.iconst 5, 1) := by decide +kernel
theorem dX7_clears_62 : decode cX7_clears 62 = .ok (.invokevirtual 148, 3) := by decide +kernel
theorem dX7_clears_65 : decode cX7_clears 65 = .ok (.iinc 2 1, 3) := by decide +kernel
theorem dX7_clears_68 : decode cX7_clears 68 = .ok (.goto (-29), 3) := by decide +kernel
theorem dX7_clears_71 : decode cX7_clears 71 = .ok (.iinc 1 1, 3) := by decide +kernel
theorem dX7_clears_74 : decode cX7_clears 74 = .ok (.goto (-50), 3) := by decide +kernel
theorem dX7_clears_77 : decode cX7_clears 77 = .ok (.aload_n 0, 1) := by decide +kernel
theorem dX7_clears_78 : decode cX7_clears 78 = .ok (.getfield 20, 3) := by decide +kernel
theorem dX7_clears_81 : decode cX7_clears 81 = .ok (.bipush 7, 2) := by decide +kernel
theorem dX7_clears_83 : decode cX7_clears 83 = .ok (.iconst 1, 1) := by decide +kernel
theorem dX7_clears_84 : decode cX7_clears 84 = .ok (.iastore, 1) := by decide +kernel
theorem dX7_clears_85 : decode cX7_clears 85 = .ok (.aload_n 0, 1) := by decide +kernel
theorem dX7_clears_86 : decode cX7_clears 86 = .ok (.getfield 20, 3) := by decide +kernel
theorem dX7_clears_89 : decode cX7_clears 89 = .ok (.iconst 2, 1) := by decide +kernel
theorem dX7_clears_90 : decode cX7_clears 90 = .ok (.iconst 3, 1) := by decide +kernel
theorem dX7_clears_91 : decode cX7_clears 91 = .ok (.iastore, 1) := by decide +kernel
theorem dX7_clears_92 : decode cX7_clears 92 = .ok (.aload_n 0, 1) := by decide +kernel
theorem dX7_clears_93 : decode cX7_clears 93 = .ok (.getfield 20, 3) := by decide +kernel
theorem dX7_clears_96 : decode cX7_clears 96 = .ok (.iconst 3, 1) := by decide +kernel
theorem dX7_clears_97 : decode cX7_clears 97 = .ok (.bipush 99, 2) := by decide +kernel
theorem dX7_clears_99 : decode cX7_clears 99 = .ok (.iastore, 1) := by decide +kernel
theorem dX7_clears_100 : decode cX7_clears 100 = .ok (.aload_n 0, 1) := by decide +kernel
theorem dX7_clears_101 : decode cX7_clears 101 = .ok (.getfield 20, 3) := by decide +kernel
theorem dX7_clears_104 : decode cX7_clears 104 = .ok (.bipush 8, 2) := by decide +kernel
theorem dX7_clears_106 : decode cX7_clears 106 = .ok (.iconst 1, 1) := by decide +kernel
theorem dX7_clears_107 : decode cX7_clears 107 = .ok (.iastore, 1) := by decide +kernel
theorem dX7_clears_108 : decode cX7_clears 108 = .ok (.aload_n 0, 1) := by decide +kernel
theorem dX7_clears_109 : decode cX7_clears 109 = .ok (.getfield 20, 3) := by decide +kernel
theorem dX7_clears_112 : decode cX7_clears 112 = .ok (.bipush 9, 2) := by decide +kernel
theorem dX7_clears_114 : decode cX7_clears 114 = .ok (.iconst 5, 1) := by decide +kernel
theorem dX7_clears_115 : decode cX7_clears 115 = .ok (.iastore, 1) := by decide +kernel
theorem dX7_clears_116 : decode cX7_clears 116 = .ok (.aload_n 0, 1) := by decide +kernel
theorem dX7_clears_117 : decode cX7_clears 117 = .ok (.getfield 20, 3) := by decide +kernel
theorem dX7_clears_120 : decode cX7_clears 120 = .ok (.bipush 10, 2) := by decide +kernel
theorem dX7_clears_122 : decode cX7_clears 122 = .ok (.iconst 3, 1) := by decide +kernel
theorem dX7_clears_123 : decode cX7_clears 123 = .ok (.iastore, 1) := by decide +kernel
theorem dX7_clears_124 : decode cX7_clears 124 = .ok (.aload_n 0, 1) := by decide +kernel
theorem dX7_clears_125 : decode cX7_clears 125 = .ok (.getfield 20, 3) := by decide +kernel
theorem dX7_clears_128 : decode cX7_clears 128 = .ok (.bipush 11, 2) := by decide +kernel
theorem dX7_clears_130 : decode cX7_clears 130 = .ok (.bipush 9, 2) := by decide +kernel
theorem dX7_clears_132 : decode cX7_clears 132 = .ok (.iastore, 1) := by decide +kernel
theorem dX7_clears_133 : decode cX7_clears 133 = .ok (.return_, 1) := by decide +kernel
theorem dX7_laysAside_0 : decode cX7_laysAside 0 = .ok (.aload_n 0, 1) := by decide +kernel
theorem dX7_laysAside_1 : decode cX7_laysAside 1 = .ok (.getfield 20, 3) := by decide +kernel
theorem dX7_laysAside_4 : decode cX7_laysAside 4 = .ok (.iconst 0, 1) := by decide +kernel
theorem dX7_laysAside_5 : decode cX7_laysAside 5 = .ok (.aload_n 0, 1) := by decide +kernel
theorem dX7_laysAside_6 : decode cX7_laysAside 6 = .ok (.getfield 26, 3) := by decide +kernel
theorem dX7_laysAside_9 : decode cX7_laysAside 9 = .ok (.iconst 0, 1) := by decide +kernel
theorem dX7_laysAside_10 : decode cX7_laysAside 10 = .ok (.invokestatic 152, 3) := by decide +kernel
theorem dX7_laysAside_13 : decode cX7_laysAside 13 = .ok (.return_, 1) := by decide +kernel
theorem dX7_keeps_0 : decode cX7_keeps 0 = .ok (.aload_n 0, 1) := by decide +kernel
theorem dX7_keeps_1 : decode cX7_keeps 1 = .ok (.getfield 156, 3) := by decide +kernel
theorem dX7_keeps_4 : decode cX7_keeps 4 = .ok (.bipush 6, 2) := by decide +kernel
theorem dX7_keeps_6 : decode cX7_keeps 6 = .ok (.if_icmp .ne 49, 3) := by decide +kernel
theorem dX7_keeps_9 : decode cX7_keeps 9 = .ok (.aload_n 0, 1) := by decide +kernel
theorem dX7_keeps_10 : decode cX7_keeps 10 = .ok (.dup, 1) := by decide +kernel
theorem dX7_keeps_11 : decode cX7_keeps 11 = .ok (.getfield 156, 3) := by decide +kernel
theorem dX7_keeps_14 : decode cX7_keeps 14 = .ok (.iconst 1, 1) := by decide +kernel
theorem dX7_keeps_15 : decode cX7_keeps 15 = .ok (.isub, 1) := by decide +kernel
theorem dX7_keeps_16 : decode cX7_keeps 16 = .ok (.putfield 156, 3) := by decide +kernel
theorem dX7_keeps_19 : decode cX7_keeps 19 = .ok (.iconst 0, 1) := by decide +kernel
theorem dX7_keeps_20 : decode cX7_keeps 20 = .ok (.istore_n 1, 1) := by decide +kernel
theorem dX7_keeps_21 : decode cX7_keeps 21 = .ok (.iload_n 1, 1) := by decide +kernel
theorem dX7_keeps_22 : decode cX7_keeps 22 = .ok (.sipush 365, 3) := by decide +kernel
theorem dX7_keeps_25 : decode cX7_keeps 25 = .ok (.aload_n 0, 1) := by decide +kernel
theorem dX7_keeps_26 : decode cX7_keeps 26 = .ok (.getfield 156, 3) := by decide +kernel
theorem dX7_keeps_29 : decode cX7_keeps 29 = .ok (.imul, 1) := by decide +kernel
theorem dX7_keeps_30 : decode cX7_keeps 30 = .ok (.if_icmp .ge 25, 3) := by decide +kernel
theorem dX7_keeps_33 : decode cX7_keeps 33 = .ok (.aload_n 0, 1) := by decide +kernel
theorem dX7_keeps_34 : decode cX7_keeps 34 = .ok (.getfield 32, 3) := by decide +kernel
theorem dX7_keeps_37 : decode cX7_keeps 37 = .ok (.iload_n 1, 1) := by decide +kernel
theorem dX7_keeps_38 : decode cX7_keeps 38 = .ok (.aload_n 0, 1) := by decide +kernel
theorem dX7_keeps_39 : decode cX7_keeps 39 = .ok (.getfield 32, 3) := by decide +kernel
theorem dX7_keeps_42 : decode cX7_keeps 42 = .ok (.iload_n 1, 1) := by decide +kernel
theorem dX7_keeps_43 : decode cX7_keeps 43 = .ok (.sipush 365, 3) := by decide +kernel
theorem dX7_keeps_46 : decode cX7_keeps 46 = .ok (.iadd, 1) := by decide +kernel
theorem dX7_keeps_47 : decode cX7_keeps 47 = .ok (.iaload, 1) := by decide +kernel
theorem dX7_keeps_48 : decode cX7_keeps 48 = .ok (.iastore, 1) := by decide +kernel
theorem dX7_keeps_49 : decode cX7_keeps 49 = .ok (.iinc 1 1, 3) := by decide +kernel
theorem dX7_keeps_52 : decode cX7_keeps 52 = .ok (.goto (-31), 3) := by decide +kernel
theorem dX7_keeps_55 : decode cX7_keeps 55 = .ok (.aload_n 0, 1) := by decide +kernel
theorem dX7_keeps_56 : decode cX7_keeps 56 = .ok (.getfield 26, 3) := by decide +kernel
theorem dX7_keeps_59 : decode cX7_keeps 59 = .ok (.iconst 0, 1) := by decide +kernel
theorem dX7_keeps_60 : decode cX7_keeps 60 = .ok (.aload_n 0, 1) := by decide +kernel
theorem dX7_keeps_61 : decode cX7_keeps 61 = .ok (.getfield 32, 3) := by decide +kernel
theorem dX7_keeps_64 : decode cX7_keeps 64 = .ok (.sipush 365, 3) := by decide +kernel
theorem dX7_keeps_67 : decode cX7_keeps 67 = .ok (.aload_n 0, 1) := by decide +kernel
theorem dX7_keeps_68 : decode cX7_keeps 68 = .ok (.getfield 156, 3) := by decide +kernel
theorem dX7_keeps_71 : decode cX7_keeps 71 = .ok (.imul, 1) := by decide +kernel
theorem dX7_keeps_72 : decode cX7_keeps 72 = .ok (.invokestatic 152, 3) := by decide +kernel
theorem dX7_keeps_75 : decode cX7_keeps 75 = .ok (.aload_n 0, 1) := by decide +kernel
theorem dX7_keeps_76 : decode cX7_keeps 76 = .ok (.dup, 1) := by decide +kernel
theorem dX7_keeps_77 : decode cX7_keeps 77 = .ok (.getfield 156, 3) := by decide +kernel
theorem dX7_keeps_80 : decode cX7_keeps 80 = .ok (.iconst 1, 1) := by decide +kernel
theorem dX7_keeps_81 : decode cX7_keeps 81 = .ok (.iadd, 1) := by decide +kernel
theorem dX7_keeps_82 : decode cX7_keeps 82 = .ok (.putfield 156, 3) := by decide +kernel
theorem dX7_keeps_85 : decode cX7_keeps 85 = .ok (.return_, 1) := by decide +kernel
theorem dX7_kept_0 : decode cX7_kept 0 = .ok (.aload_n 0, 1) := by decide +kernel
theorem dX7_kept_1 : decode cX7_kept 1 = .ok (.invokevirtual 159, 3) := by decide +kernel
theorem dX7_kept_4 : decode cX7_kept 4 = .ok (.iload_n 1, 1) := by decide +kernel
theorem dX7_kept_5 : decode cX7_kept 5 = .ok (.ireturn, 1) := by decide +kernel
theorem dX7_undo_0 : decode cX7_undo 0 = .ok (.aload_n 0, 1) := by decide +kernel
theorem dX7_undo_1 : decode cX7_undo 1 = .ok (.iconst 0, 1) := by decide +kernel
theorem dX7_undo_2 : decode cX7_undo 2 = .ok (.putfield 66, 3) := by decide +kernel
theorem dX7_undo_5 : decode cX7_undo 5 = .ok (.aload_n 0, 1) := by decide +kernel
theorem dX7_undo_6 : decode cX7_undo 6 = .ok (.getfield 156, 3) := by decide +kernel
theorem dX7_undo_9 : decode cX7_undo 9 = .ok (.ifCond .ne 5, 3) := by decide +kernel
theorem dX7_undo_12 : decode cX7_undo 12 = .ok (.iconst (-1), 1) := by decide +kernel
theorem dX7_undo_13 : decode cX7_undo 13 = .ok (.ireturn, 1) := by decide +kernel
theorem dX7_undo_14 : decode cX7_undo 14 = .ok (.aload_n 0, 1) := by decide +kernel
theorem dX7_undo_15 : decode cX7_undo 15 = .ok (.dup, 1) := by decide +kernel
theorem dX7_undo_16 : decode cX7_undo 16 = .ok (.getfield 156, 3) := by decide +kernel
theorem dX7_undo_19 : decode cX7_undo 19 = .ok (.iconst 1, 1) := by decide +kernel
theorem dX7_undo_20 : decode cX7_undo 20 = .ok (.isub, 1) := by decide +kernel
theorem dX7_undo_21 : decode cX7_undo 21 = .ok (.putfield 156, 3) := by decide +kernel
theorem dX7_undo_24 : decode cX7_undo 24 = .ok (.aload_n 0, 1) := by decide +kernel
theorem dX7_undo_25 : decode cX7_undo 25 = .ok (.getfield 32, 3) := by decide +kernel
theorem dX7_undo_28 : decode cX7_undo 28 = .ok (.sipush 365, 3) := by decide +kernel
theorem dX7_undo_31 : decode cX7_undo 31 = .ok (.aload_n 0, 1) := by decide +kernel
theorem dX7_undo_32 : decode cX7_undo 32 = .ok (.getfield 156, 3) := by decide +kernel
theorem dX7_undo_35 : decode cX7_undo 35 = .ok (.imul, 1) := by decide +kernel
theorem dX7_undo_36 : decode cX7_undo 36 = .ok (.aload_n 0, 1) := by decide +kernel
theorem dX7_undo_37 : decode cX7_undo 37 = .ok (.getfield 20, 3) := by decide +kernel
theorem dX7_undo_40 : decode cX7_undo 40 = .ok (.iconst 0, 1) := by decide +kernel
theorem dX7_undo_41 : decode cX7_undo 41 = .ok (.invokestatic 152, 3) := by decide +kernel
theorem dX7_undo_44 : decode cX7_undo 44 = .ok (.aload_n 0, 1) := by decide +kernel
theorem dX7_undo_45 : decode cX7_undo 45 = .ok (.getfield 156, 3) := by decide +kernel
theorem dX7_undo_48 : decode cX7_undo 48 = .ok (.ireturn, 1) := by decide +kernel
theorem dX7_save_0 : decode cX7_save 0 = .ok (.aload_n 0, 1) := by decide +kernel
theorem dX7_save_1 : decode cX7_save 1 = .ok (.iconst 0, 1) := by decide +kernel
theorem dX7_save_2 : decode cX7_save 2 = .ok (.putfield 66, 3) := by decide +kernel
theorem dX7_save_5 : decode cX7_save 5 = .ok (.aload_n 0, 1) := by decide +kernel
theorem dX7_save_6 : decode cX7_save 6 = .ok (.getfield 20, 3) := by decide +kernel
theorem dX7_save_9 : decode cX7_save 9 = .ok (.iconst 0, 1) := by decide +kernel
theorem dX7_save_10 : decode cX7_save 10 = .ok (.aload_n 0, 1) := by decide +kernel
theorem dX7_save_11 : decode cX7_save 11 = .ok (.getfield 23, 3) := by decide +kernel
theorem dX7_save_14 : decode cX7_save 14 = .ok (.iconst 0, 1) := by decide +kernel
theorem dX7_save_15 : decode cX7_save 15 = .ok (.invokestatic 152, 3) := by decide +kernel
theorem dX7_save_18 : decode cX7_save 18 = .ok (.aload_n 0, 1) := by decide +kernel
theorem dX7_save_19 : decode cX7_save 19 = .ok (.getfield 35, 3) := by decide +kernel
theorem dX7_save_22 : decode cX7_save 22 = .ok (.aload_n 0, 1) := by decide +kernel
theorem dX7_save_23 : decode cX7_save 23 = .ok (.getfield 39, 3) := by decide +kernel
theorem dX7_save_26 : decode cX7_save 26 = .ok (.invokestatic 162, 3) := by decide +kernel
theorem dX7_save_29 : decode cX7_save 29 = .ok (.aload_n 0, 1) := by decide +kernel
theorem dX7_save_30 : decode cX7_save 30 = .ok (.iconst 1, 1) := by decide +kernel
theorem dX7_save_31 : decode cX7_save 31 = .ok (.putfield 166, 3) := by decide +kernel
theorem dX7_save_34 : decode cX7_save 34 = .ok (.aload_n 0, 1) := by decide +kernel
theorem dX7_save_35 : decode cX7_save 35 = .ok (.getfield 20, 3) := by decide +kernel
theorem dX7_save_38 : decode cX7_save 38 = .ok (.iconst 1, 1) := by decide +kernel
theorem dX7_save_39 : decode cX7_save 39 = .ok (.iaload, 1) := by decide +kernel
theorem dX7_save_40 : decode cX7_save 40 = .ok (.ireturn, 1) := by decide +kernel
theorem dX7_restore_0 : decode cX7_restore 0 = .ok (.aload_n 0, 1) := by decide +kernel
theorem dX7_restore_1 : decode cX7_restore 1 = .ok (.aload_n 0, 1) := by decide +kernel
theorem dX7_restore_2 : decode cX7_restore 2 = .ok (.getfield 166, 3) := by decide +kernel
theorem dX7_restore_5 : decode cX7_restore 5 = .ok (.invokevirtual 76, 3) := by decide +kernel
theorem dX7_restore_8 : decode cX7_restore 8 = .ok (.ifCond .ne 5, 3) := by decide +kernel
theorem dX7_restore_11 : decode cX7_restore 11 = .ok (.iconst 0, 1) := by decide +kernel
theorem dX7_restore_12 : decode cX7_restore 12 = .ok (.ireturn, 1) := by decide +kernel
theorem dX7_restore_13 : decode cX7_restore 13 = .ok (.aload_n 0, 1) := by decide +kernel
theorem dX7_restore_14 : decode cX7_restore 14 = .ok (.getfield 23, 3) := by decide +kernel
theorem dX7_restore_17 : decode cX7_restore 17 = .ok (.iconst 0, 1) := by decide +kernel
theorem dX7_restore_18 : decode cX7_restore 18 = .ok (.aload_n 0, 1) := by decide +kernel
theorem dX7_restore_19 : decode cX7_restore 19 = .ok (.getfield 20, 3) := by decide +kernel
theorem dX7_restore_22 : decode cX7_restore 22 = .ok (.iconst 0, 1) := by decide +kernel
theorem dX7_restore_23 : decode cX7_restore 23 = .ok (.invokestatic 152, 3) := by decide +kernel
theorem dX7_restore_26 : decode cX7_restore 26 = .ok (.aload_n 0, 1) := by decide +kernel
theorem dX7_restore_27 : decode cX7_restore 27 = .ok (.getfield 39, 3) := by decide +kernel
theorem dX7_restore_30 : decode cX7_restore 30 = .ok (.aload_n 0, 1) := by decide +kernel
theorem dX7_restore_31 : decode cX7_restore 31 = .ok (.getfield 35, 3) := by decide +kernel
theorem dX7_restore_34 : decode cX7_restore 34 = .ok (.invokestatic 162, 3) := by decide +kernel
theorem dX7_restore_37 : decode cX7_restore 37 = .ok (.aload_n 0, 1) := by decide +kernel
theorem dX7_restore_38 : decode cX7_restore 38 = .ok (.iconst 0, 1) := by decide +kernel
theorem dX7_restore_39 : decode cX7_restore 39 = .ok (.putfield 156, 3) := by decide +kernel
theorem dX7_restore_42 : decode cX7_restore 42 = .ok (.aload_n 0, 1) := by decide +kernel
theorem dX7_restore_43 : decode cX7_restore 43 = .ok (.getfield 20, 3) := by decide +kernel
theorem dX7_restore_46 : decode cX7_restore 46 = .ok (.iconst 1, 1) := by decide +kernel
theorem dX7_restore_47 : decode cX7_restore 47 = .ok (.iaload, 1) := by decide +kernel
theorem dX7_restore_48 : decode cX7_restore 48 = .ok (.ireturn, 1) := by decide +kernel
theorem dX7_mustBeWord_0 : decode cX7_mustBeWord 0 = .ok (.aload_n 0, 1) := by decide +kernel
theorem dX7_mustBeWord_1 : decode cX7_mustBeWord 1 = .ok (.invokevirtual 121, 3) := by decide +kernel
theorem dX7_mustBeWord_4 : decode cX7_mustBeWord 4 = .ok (.ifCond .eq 16, 3) := by decide +kernel
theorem dX7_mustBeWord_7 : decode cX7_mustBeWord 7 = .ok (.aload_n 0, 1) := by decide +kernel
theorem dX7_mustBeWord_8 : decode cX7_mustBeWord 8 = .ok (.getfield 108, 3) := by decide +kernel
theorem dX7_mustBeWord_11 : decode cX7_mustBeWord 11 = .ok (.iconst 1, 1) := by decide +kernel
theorem dX7_mustBeWord_12 : decode cX7_mustBeWord 12 = .ok (.if_icmp .eq 8, 3) := by decide +kernel
theorem dX7_mustBeWord_15 : decode cX7_mustBeWord 15 = .ok (.aload_n 0, 1) := by decide +kernel
theorem dX7_mustBeWord_16 : decode cX7_mustBeWord 16 = .ok (.iconst 1, 1) := by decide +kernel
theorem dX7_mustBeWord_17 : decode cX7_mustBeWord 17 = .ok (.invokevirtual 128, 3) := by decide +kernel
theorem dX7_mustBeWord_20 : decode cX7_mustBeWord 20 = .ok (.return_, 1) := by decide +kernel
theorem dX7_named_0 : decode cX7_named 0 = .ok (.iconst (-1), 1) := by decide +kernel
theorem dX7_named_1 : decode cX7_named 1 = .ok (.istore_n 1, 1) := by decide +kernel
theorem dX7_named_2 : decode cX7_named 2 = .ok (.iconst 0, 1) := by decide +kernel
theorem dX7_named_3 : decode cX7_named 3 = .ok (.istore_n 2, 1) := by decide +kernel
theorem dX7_named_4 : decode cX7_named 4 = .ok (.iload_n 2, 1) := by decide +kernel
theorem dX7_named_5 : decode cX7_named 5 = .ok (.aload_n 0, 1) := by decide +kernel
theorem dX7_named_6 : decode cX7_named 6 = .ok (.getfield 20, 3) := by decide +kernel
theorem dX7_named_9 : decode cX7_named 9 = .ok (.iconst 0, 1) := by decide +kernel
theorem dX7_named_10 : decode cX7_named 10 = .ok (.iaload, 1) := by decide +kernel
theorem dX7_named_11 : decode cX7_named 11 = .ok (.if_icmp .ge 29, 3) := by decide +kernel
theorem dX7_named_14 : decode cX7_named 14 = .ok (.aload_n 0, 1) := by decide +kernel
theorem dX7_named_15 : decode cX7_named 15 = .ok (.getfield 35, 3) := by decide +kernel
theorem dX7_named_18 : decode cX7_named 18 = .ok (.iload_n 2, 1) := by decide +kernel
theorem dX7_named_19 : decode cX7_named 19 = .ok (.laload, 1) := by decide +kernel
theorem dX7_named_20 : decode cX7_named 20 = .ok (.aload_n 0, 1) := by decide +kernel
theorem dX7_named_21 : decode cX7_named 21 = .ok (.getfield 101, 3) := by decide +kernel
theorem dX7_named_24 : decode cX7_named 24 = .ok (.lcmp, 1) := by decide +kernel
theorem dX7_named_25 : decode cX7_named 25 = .ok (.ifCond .ne 7, 3) := by decide +kernel
theorem dX7_named_28 : decode cX7_named 28 = .ok (.iload_n 2, 1) := by decide +kernel
theorem dX7_named_29 : decode cX7_named 29 = .ok (.goto 4, 3) := by decide +kernel
theorem dX7_named_32 : decode cX7_named 32 = .ok (.iload_n 1, 1) := by decide +kernel
theorem dX7_named_33 : decode cX7_named 33 = .ok (.istore_n 1, 1) := by decide +kernel
theorem dX7_named_34 : decode cX7_named 34 = .ok (.iinc 2 1, 3) := by decide +kernel
theorem dX7_named_37 : decode cX7_named 37 = .ok (.goto (-33), 3) := by decide +kernel
theorem dX7_named_40 : decode cX7_named 40 = .ok (.iload_n 1, 1) := by decide +kernel
theorem dX7_named_41 : decode cX7_named 41 = .ok (.ireturn, 1) := by decide +kernel
theorem dX7_told_0 : decode cX7_told 0 = .ok (.aload_n 0, 1) := by decide +kernel
theorem dX7_told_1 : decode cX7_told 1 = .ok (.invokevirtual 170, 3) := by decide +kernel
theorem dX7_told_4 : decode cX7_told 4 = .ok (.aload_n 0, 1) := by decide +kernel
theorem dX7_told_5 : decode cX7_told 5 = .ok (.invokevirtual 121, 3) := by decide +kernel
theorem dX7_told_8 : decode cX7_told 8 = .ok (.ifCond .eq 10, 3) := by decide +kernel
theorem dX7_told_11 : decode cX7_told 11 = .ok (.aload_n 0, 1) := by decide +kernel
theorem dX7_told_12 : decode cX7_told 12 = .ok (.invokevirtual 173, 3) := by decide +kernel
theorem dX7_told_15 : decode cX7_told 15 = .ok (.goto 4, 3) := by decide +kernel
theorem dX7_told_18 : decode cX7_told 18 = .ok (.iconst (-1), 1) := by decide +kernel
theorem dX7_told_19 : decode cX7_told 19 = .ok (.istore_n 1, 1) := by decide +kernel
theorem dX7_told_20 : decode cX7_told 20 = .ok (.aload_n 0, 1) := by decide +kernel
theorem dX7_told_21 : decode cX7_told 21 = .ok (.invokevirtual 121, 3) := by decide +kernel
theorem dX7_told_24 : decode cX7_told 24 = .ok (.ifCond .eq 13, 3) := by decide +kernel
theorem dX7_told_27 : decode cX7_told 27 = .ok (.iload_n 1, 1) := by decide +kernel
theorem dX7_told_28 : decode cX7_told 28 = .ok (.iconst (-1), 1) := by decide +kernel
theorem dX7_told_29 : decode cX7_told 29 = .ok (.if_icmp .ne 8, 3) := by decide +kernel
theorem dX7_told_32 : decode cX7_told 32 = .ok (.aload_n 0, 1) := by decide +kernel
theorem dX7_told_33 : decode cX7_told 33 = .ok (.iconst 4, 1) := by decide +kernel
theorem dX7_told_34 : decode cX7_told 34 = .ok (.invokevirtual 128, 3) := by decide +kernel
theorem dX7_told_37 : decode cX7_told 37 = .ok (.aload_n 0, 1) := by decide +kernel
theorem dX7_told_38 : decode cX7_told 38 = .ok (.invokevirtual 121, 3) := by decide +kernel
theorem dX7_told_41 : decode cX7_told 41 = .ok (.ifCond .eq 7, 3) := by decide +kernel
theorem dX7_told_44 : decode cX7_told 44 = .ok (.aload_n 0, 1) := by decide +kernel
theorem dX7_told_45 : decode cX7_told 45 = .ok (.invokevirtual 131, 3) := by decide +kernel
theorem dX7_told_48 : decode cX7_told 48 = .ok (.iload_n 1, 1) := by decide +kernel
theorem dX7_told_49 : decode cX7_told 49 = .ok (.ireturn, 1) := by decide +kernel
theorem dX7_once_0 : decode cX7_once 0 = .ok (.aload_n 0, 1) := by decide +kernel
theorem dX7_once_1 : decode cX7_once 1 = .ok (.getfield 177, 3) := by decide +kernel
theorem dX7_once_4 : decode cX7_once 4 = .ok (.iload_n 1, 1) := by decide +kernel
theorem dX7_once_5 : decode cX7_once 5 = .ok (.invokestatic 180, 3) := by decide +kernel
theorem dX7_once_8 : decode cX7_once 8 = .ok (.ifCond .eq 8, 3) := by decide +kernel
theorem dX7_once_11 : decode cX7_once 11 = .ok (.aload_n 0, 1) := by decide +kernel
theorem dX7_once_12 : decode cX7_once 12 = .ok (.iconst 3, 1) := by decide +kernel
theorem dX7_once_13 : decode cX7_once 13 = .ok (.invokevirtual 128, 3) := by decide +kernel
theorem dX7_once_16 : decode cX7_once 16 = .ok (.aload_n 0, 1) := by decide +kernel
theorem dX7_once_17 : decode cX7_once 17 = .ok (.dup, 1) := by decide +kernel
theorem dX7_once_18 : decode cX7_once 18 = .ok (.getfield 177, 3) := by decide +kernel
theorem dX7_once_21 : decode cX7_once 21 = .ok (.iconst 1, 1) := by decide +kernel
theorem dX7_once_22 : decode cX7_once 22 = .ok (.iload_n 1, 1) := by decide +kernel
theorem dX7_once_23 : decode cX7_once 23 = .ok (.ishl, 1) := by decide +kernel
theorem dX7_once_24 : decode cX7_once 24 = .ok (.ior, 1) := by decide +kernel
theorem dX7_once_25 : decode cX7_once 25 = .ok (.putfield 177, 3) := by decide +kernel
theorem dX7_once_28 : decode cX7_once 28 = .ok (.aload_n 0, 1) := by decide +kernel
theorem dX7_once_29 : decode cX7_once 29 = .ok (.invokevirtual 121, 3) := by decide +kernel
theorem dX7_once_32 : decode cX7_once 32 = .ok (.ifCond .eq 7, 3) := by decide +kernel
theorem dX7_once_35 : decode cX7_once 35 = .ok (.aload_n 0, 1) := by decide +kernel
theorem dX7_once_36 : decode cX7_once 36 = .ok (.invokevirtual 131, 3) := by decide +kernel
theorem dX7_once_39 : decode cX7_once 39 = .ok (.return_, 1) := by decide +kernel
theorem dX7_perhaps_0 : decode cX7_perhaps 0 = .ok (.aload_n 0, 1) := by decide +kernel
theorem dX7_perhaps_1 : decode cX7_perhaps 1 = .ok (.lload_n 1, 1) := by decide +kernel
theorem dX7_perhaps_2 : decode cX7_perhaps 2 = .ok (.invokevirtual 134, 3) := by decide +kernel
theorem dX7_perhaps_5 : decode cX7_perhaps 5 = .ok (.ifCond .ne 6, 3) := by decide +kernel
theorem dX7_perhaps_8 : decode cX7_perhaps 8 = .ok (.iload 5, 2) := by decide +kernel
theorem dX7_perhaps_10 : decode cX7_perhaps 10 = .ok (.ireturn, 1) := by decide +kernel
theorem dX7_perhaps_11 : decode cX7_perhaps 11 = .ok (.aload_n 0, 1) := by decide +kernel
theorem dX7_perhaps_12 : decode cX7_perhaps 12 = .ok (.invokevirtual 131, 3) := by decide +kernel
theorem dX7_perhaps_15 : decode cX7_perhaps 15 = .ok (.aload_n 0, 1) := by decide +kernel
theorem dX7_perhaps_16 : decode cX7_perhaps 16 = .ok (.iload_n 3, 1) := by decide +kernel
theorem dX7_perhaps_17 : decode cX7_perhaps 17 = .ok (.iload 4, 2) := by decide +kernel
theorem dX7_perhaps_19 : decode cX7_perhaps 19 = .ok (.invokevirtual 184, 3) := by decide +kernel
theorem dX7_perhaps_22 : decode cX7_perhaps 22 = .ok (.ireturn, 1) := by decide +kernel
theorem dX7_readsBeacon_0 : decode cX7_readsBeacon 0 = .ok (.aload_n 0, 1) := by decide +kernel
theorem dX7_readsBeacon_1 : decode cX7_readsBeacon 1 = .ok (.getfield 20, 3) := by decide +kernel
theorem dX7_readsBeacon_4 : decode cX7_readsBeacon 4 = .ok (.iconst 0, 1) := by decide +kernel
theorem dX7_readsBeacon_5 : decode cX7_readsBeacon 5 = .ok (.iaload, 1) := by decide +kernel
theorem dX7_readsBeacon_6 : decode cX7_readsBeacon 6 = .ok (.istore_n 1, 1) := by decide +kernel
theorem dX7_readsBeacon_7 : decode cX7_readsBeacon 7 = .ok (.iload_n 1, 1) := by decide +kernel
theorem dX7_readsBeacon_8 : decode cX7_readsBeacon 8 = .ok (.bipush 8, 2) := by decide +kernel
theorem dX7_readsBeacon_10 : decode cX7_readsBeacon 10 = .ok (.if_icmp .ne 8, 3) := by decide +kernel
theorem dX7_readsBeacon_13 : decode cX7_readsBeacon 13 = .ok (.aload_n 0, 1) := by decide +kernel
theorem dX7_readsBeacon_14 : decode cX7_readsBeacon 14 = .ok (.iconst 5, 1) := by decide +kernel
theorem dX7_readsBeacon_15 : decode cX7_readsBeacon 15 = .ok (.invokevirtual 128, 3) := by decide +kernel
theorem dX7_readsBeacon_18 : decode cX7_readsBeacon 18 = .ok (.aload_n 0, 1) := by decide +kernel
theorem dX7_readsBeacon_19 : decode cX7_readsBeacon 19 = .ok (.invokevirtual 121, 3) := by decide +kernel
theorem dX7_readsBeacon_22 : decode cX7_readsBeacon 22 = .ok (.ifCond .eq 7, 3) := by decide +kernel
theorem dX7_readsBeacon_25 : decode cX7_readsBeacon 25 = .ok (.aload_n 0, 1) := by decide +kernel
theorem dX7_readsBeacon_26 : decode cX7_readsBeacon 26 = .ok (.invokevirtual 131, 3) := by decide +kernel
theorem dX7_readsBeacon_29 : decode cX7_readsBeacon 29 = .ok (.aload_n 0, 1) := by decide +kernel
theorem dX7_readsBeacon_30 : decode cX7_readsBeacon 30 = .ok (.invokevirtual 170, 3) := by decide +kernel
theorem dX7_readsBeacon_33 : decode cX7_readsBeacon 33 = .ok (.aload_n 0, 1) := by decide +kernel
theorem dX7_readsBeacon_34 : decode cX7_readsBeacon 34 = .ok (.invokevirtual 121, 3) := by decide +kernel
theorem dX7_readsBeacon_37 : decode cX7_readsBeacon 37 = .ok (.ifCond .eq 16, 3) := by decide +kernel
theorem dX7_readsBeacon_40 : decode cX7_readsBeacon 40 = .ok (.aload_n 0, 1) := by decide +kernel
theorem dX7_readsBeacon_41 : decode cX7_readsBeacon 41 = .ok (.invokevirtual 173, 3) := by decide +kernel
theorem dX7_readsBeacon_44 : decode cX7_readsBeacon 44 = .ok (.iconst (-1), 1) := by decide +kernel
theorem dX7_readsBeacon_45 : decode cX7_readsBeacon 45 = .ok (.if_icmp .eq 8, 3) := by decide +kernel
theorem dX7_readsBeacon_48 : decode cX7_readsBeacon 48 = .ok (.aload_n 0, 1) := by decide +kernel
theorem dX7_readsBeacon_49 : decode cX7_readsBeacon 49 = .ok (.iconst 3, 1) := by decide +kernel
theorem dX7_readsBeacon_50 : decode cX7_readsBeacon 50 = .ok (.invokevirtual 128, 3) := by decide +kernel
theorem dX7_readsBeacon_53 : decode cX7_readsBeacon 53 = .ok (.aload_n 0, 1) := by decide +kernel
theorem dX7_readsBeacon_54 : decode cX7_readsBeacon 54 = .ok (.invokevirtual 121, 3) := by decide +kernel
theorem dX7_readsBeacon_57 : decode cX7_readsBeacon 57 = .ok (.ifCond .ne 4, 3) := by decide +kernel
theorem dX7_readsBeacon_60 : decode cX7_readsBeacon 60 = .ok (.return_, 1) := by decide +kernel
theorem dX7_readsBeacon_61 : decode cX7_readsBeacon 61 = .ok (.aload_n 0, 1) := by decide +kernel
theorem dX7_readsBeacon_62 : decode cX7_readsBeacon 62 = .ok (.getfield 35, 3) := by decide +kernel
theorem dX7_readsBeacon_65 : decode cX7_readsBeacon 65 = .ok (.iload_n 1, 1) := by decide +kernel
theorem dX7_readsBeacon_66 : decode cX7_readsBeacon 66 = .ok (.aload_n 0, 1) := by decide +kernel
theorem dX7_readsBeacon_67 : decode cX7_readsBeacon 67 = .ok (.getfield 101, 3) := by decide +kernel
theorem dX7_readsBeacon_70 : decode cX7_readsBeacon 70 = .ok (.lastore, 1) := by decide +kernel
theorem dX7_readsBeacon_71 : decode cX7_readsBeacon 71 = .ok (.aload_n 0, 1) := by decide +kernel
theorem dX7_readsBeacon_72 : decode cX7_readsBeacon 72 = .ok (.invokevirtual 131, 3) := by decide +kernel
theorem dX7_readsBeacon_75 : decode cX7_readsBeacon 75 = .ok (.aload_n 0, 1) := by decide +kernel
theorem dX7_readsBeacon_76 : decode cX7_readsBeacon 76 = .ok (.ldc2_w 187, 3) := by decide +kernel
theorem dX7_readsBeacon_79 : decode cX7_readsBeacon 79 = .ok (.invokevirtual 189, 3) := by decide +kernel
theorem dX7_readsBeacon_82 : decode cX7_readsBeacon 82 = .ok (.aload_n 0, 1) := by decide +kernel
theorem dX7_readsBeacon_83 : decode cX7_readsBeacon 83 = .ok (.iconst 2, 1) := by decide +kernel
theorem dX7_readsBeacon_84 : decode cX7_readsBeacon 84 = .ok (.bipush 99, 2) := by decide +kernel
theorem dX7_readsBeacon_86 : decode cX7_readsBeacon 86 = .ok (.invokevirtual 184, 3) := by decide +kernel
theorem dX7_readsBeacon_89 : decode cX7_readsBeacon 89 = .ok (.istore_n 2, 1) := by decide +kernel
theorem dX7_readsBeacon_90 : decode cX7_readsBeacon 90 = .ok (.aload_n 0, 1) := by decide +kernel
theorem dX7_readsBeacon_91 : decode cX7_readsBeacon 91 = .ok (.iload_n 1, 1) := by decide +kernel
theorem dX7_readsBeacon_92 : decode cX7_readsBeacon 92 = .ok (.iconst 0, 1) := by decide +kernel
theorem dX7_readsBeacon_93 : decode cX7_readsBeacon 93 = .ok (.iload_n 2, 1) := by decide +kernel
theorem dX7_readsBeacon_94 : decode cX7_readsBeacon 94 = .ok (.invokevirtual 148, 3) := by decide +kernel
theorem dX7_readsBeacon_97 : decode cX7_readsBeacon 97 = .ok (.aload_n 0, 1) := by decide +kernel
theorem dX7_readsBeacon_98 : decode cX7_readsBeacon 98 = .ok (.iload_n 1, 1) := by decide +kernel
theorem dX7_readsBeacon_99 : decode cX7_readsBeacon 99 = .ok (.iconst 1, 1) := by decide +kernel
theorem dX7_readsBeacon_100 : decode cX7_readsBeacon 100 = .ok (.aload_n 0, 1) := by decide +kernel
theorem dX7_readsBeacon_101 : decode cX7_readsBeacon 101 = .ok (.ldc2_w 193, 3) := by decide +kernel
theorem dX7_readsBeacon_104 : decode cX7_readsBeacon 104 = .ok (.iconst 0, 1) := by decide +kernel
theorem dX7_readsBeacon_105 : decode cX7_readsBeacon 105 = .ok (.iload_n 2, 1) := by decide +kernel
theorem dX7_readsBeacon_106 : decode cX7_readsBeacon 106 = .ok (.iconst 1, 1) := by decide +kernel
theorem dX7_readsBeacon_107 : decode cX7_readsBeacon 107 = .ok (.isub, 1) := by decide +kernel
theorem dX7_readsBeacon_108 : decode cX7_readsBeacon 108 = .ok (.iconst 0, 1) := by decide +kernel
theorem dX7_readsBeacon_109 : decode cX7_readsBeacon 109 = .ok (.invokevirtual 195, 3) := by decide +kernel
theorem dX7_readsBeacon_112 : decode cX7_readsBeacon 112 = .ok (.invokevirtual 148, 3) := by decide +kernel
theorem dX7_readsBeacon_115 : decode cX7_readsBeacon 115 = .ok (.aload_n 0, 1) := by decide +kernel
theorem dX7_readsBeacon_116 : decode cX7_readsBeacon 116 = .ok (.iload_n 1, 1) := by decide +kernel
theorem dX7_readsBeacon_117 : decode cX7_readsBeacon 117 = .ok (.iconst 2, 1) := by decide +kernel
theorem dX7_readsBeacon_118 : decode cX7_readsBeacon 118 = .ok (.aload_n 0, 1) := by decide +kernel
theorem dX7_readsBeacon_119 : decode cX7_readsBeacon 119 = .ok (.ldc2_w 199, 3) := by decide +kernel
theorem dX7_readsBeacon_122 : decode cX7_readsBeacon 122 = .ok (.iconst 1, 1) := by decide +kernel
theorem dX7_readsBeacon_123 : decode cX7_readsBeacon 123 = .ok (.bipush 9, 2) := by decide +kernel
theorem dX7_readsBeacon_125 : decode cX7_readsBeacon 125 = .ok (.iconst 2, 1) := by decide +kernel
theorem dX7_readsBeacon_126 : decode cX7_readsBeacon 126 = .ok (.invokevirtual 195, 3) := by decide +kernel
theorem dX7_readsBeacon_129 : decode cX7_readsBeacon 129 = .ok (.invokevirtual 148, 3) := by decide +kernel
theorem dX7_readsBeacon_132 : decode cX7_readsBeacon 132 = .ok (.aload_n 0, 1) := by decide +kernel
theorem dX7_readsBeacon_133 : decode cX7_readsBeacon 133 = .ok (.iload_n 1, 1) := by decide +kernel
theorem dX7_readsBeacon_134 : decode cX7_readsBeacon 134 = .ok (.iconst 3, 1) := by decide +kernel
theorem dX7_readsBeacon_135 : decode cX7_readsBeacon 135 = .ok (.aload_n 0, 1) := by decide +kernel
theorem dX7_readsBeacon_136 : decode cX7_readsBeacon 136 = .ok (.ldc2_w 201, 3) := by decide +kernel
theorem dX7_readsBeacon_139 : decode cX7_readsBeacon 139 = .ok (.iconst 1, 1) := by decide +kernel
theorem dX7_readsBeacon_140 : decode cX7_readsBeacon 140 = .ok (.bipush 9, 2) := by decide +kernel
theorem dX7_readsBeacon_142 : decode cX7_readsBeacon 142 = .ok (.iconst 2, 1) := by decide +kernel
theorem dX7_readsBeacon_143 : decode cX7_readsBeacon 143 = .ok (.invokevirtual 195, 3) := by decide +kernel
theorem dX7_readsBeacon_146 : decode cX7_readsBeacon 146 = .ok (.invokevirtual 148, 3) := by decide +kernel
theorem dX7_readsBeacon_149 : decode cX7_readsBeacon 149 = .ok (.aload_n 0, 1) := by decide +kernel
theorem dX7_readsBeacon_150 : decode cX7_readsBeacon 150 = .ok (.iload_n 1, 1) := by decide +kernel
theorem dX7_readsBeacon_151 : decode cX7_readsBeacon 151 = .ok (.iconst 4, 1) := by decide +kernel
theorem dX7_readsBeacon_152 : decode cX7_readsBeacon 152 = .ok (.aload_n 0, 1) := by decide +kernel
theorem dX7_readsBeacon_153 : decode cX7_readsBeacon 153 = .ok (.ldc2_w 203, 3) := by decide +kernel
theorem dX7_readsBeacon_156 : decode cX7_readsBeacon 156 = .ok (.iconst 1, 1) := by decide +kernel
theorem dX7_readsBeacon_157 : decode cX7_readsBeacon 157 = .ok (.sipush 999, 3) := by decide +kernel
theorem dX7_readsBeacon_160 : decode cX7_readsBeacon 160 = .ok (.sipush 999, 3) := by decide +kernel
theorem dX7_readsBeacon_163 : decode cX7_readsBeacon 163 = .ok (.invokevirtual 195, 3) := by decide +kernel
theorem dX7_readsBeacon_166 : decode cX7_readsBeacon 166 = .ok (.invokevirtual 148, 3) := by decide +kernel
theorem dX7_readsBeacon_169 : decode cX7_readsBeacon 169 = .ok (.aload_n 0, 1) := by decide +kernel
theorem dX7_readsBeacon_170 : decode cX7_readsBeacon 170 = .ok (.invokevirtual 121, 3) := by decide +kernel
theorem dX7_readsBeacon_173 : decode cX7_readsBeacon 173 = .ok (.ifCond .eq 13, 3) := by decide +kernel
theorem dX7_readsBeacon_176 : decode cX7_readsBeacon 176 = .ok (.aload_n 0, 1) := by decide +kernel
theorem dX7_readsBeacon_177 : decode cX7_readsBeacon 177 = .ok (.getfield 20, 3) := by decide +kernel
theorem dX7_readsBeacon_180 : decode cX7_readsBeacon 180 = .ok (.iconst 0, 1) := by decide +kernel
theorem dX7_readsBeacon_181 : decode cX7_readsBeacon 181 = .ok (.dup2, 1) := by decide +kernel
theorem dX7_readsBeacon_182 : decode cX7_readsBeacon 182 = .ok (.iaload, 1) := by decide +kernel
theorem dX7_readsBeacon_183 : decode cX7_readsBeacon 183 = .ok (.iconst 1, 1) := by decide +kernel
theorem dX7_readsBeacon_184 : decode cX7_readsBeacon 184 = .ok (.iadd, 1) := by decide +kernel
theorem dX7_readsBeacon_185 : decode cX7_readsBeacon 185 = .ok (.iastore, 1) := by decide +kernel
theorem dX7_readsBeacon_186 : decode cX7_readsBeacon 186 = .ok (.return_, 1) := by decide +kernel
theorem dX7_areNear_0 : decode cX7_areNear 0 = .ok (.aload_n 0, 1) := by decide +kernel
theorem dX7_areNear_1 : decode cX7_areNear 1 = .ok (.getfield 20, 3) := by decide +kernel
theorem dX7_areNear_4 : decode cX7_areNear 4 = .ok (.bipush 13, 2) := by decide +kernel
theorem dX7_areNear_6 : decode cX7_areNear 6 = .ok (.iload_n 1, 1) := by decide +kernel
theorem dX7_areNear_7 : decode cX7_areNear 7 = .ok (.iadd, 1) := by decide +kernel
theorem dX7_areNear_8 : decode cX7_areNear 8 = .ok (.iaload, 1) := by decide +kernel
theorem dX7_areNear_9 : decode cX7_areNear 9 = .ok (.iload_n 2, 1) := by decide +kernel
theorem dX7_areNear_10 : decode cX7_areNear 10 = .ok (.invokestatic 180, 3) := by decide +kernel
theorem dX7_areNear_13 : decode cX7_areNear 13 = .ok (.ireturn, 1) := by decide +kernel
theorem dX7_nears_0 : decode cX7_nears 0 = .ok (.iconst 1, 1) := by decide +kernel
theorem dX7_nears_1 : decode cX7_nears 1 = .ok (.iload_n 2, 1) := by decide +kernel
theorem dX7_nears_2 : decode cX7_nears 2 = .ok (.ishl, 1) := by decide +kernel
theorem dX7_nears_3 : decode cX7_nears 3 = .ok (.istore 4, 2) := by decide +kernel
theorem dX7_nears_5 : decode cX7_nears 5 = .ok (.iconst 1, 1) := by decide +kernel
theorem dX7_nears_6 : decode cX7_nears 6 = .ok (.iload_n 1, 1) := by decide +kernel
theorem dX7_nears_7 : decode cX7_nears 7 = .ok (.ishl, 1) := by decide +kernel
theorem dX7_nears_8 : decode cX7_nears 8 = .ok (.istore 5, 2) := by decide +kernel
theorem dX7_nears_10 : decode cX7_nears 10 = .ok (.aload_n 0, 1) := by decide +kernel
theorem dX7_nears_11 : decode cX7_nears 11 = .ok (.getfield 20, 3) := by decide +kernel
theorem dX7_nears_14 : decode cX7_nears 14 = .ok (.bipush 13, 2) := by decide +kernel
theorem dX7_nears_16 : decode cX7_nears 16 = .ok (.iload_n 1, 1) := by decide +kernel
theorem dX7_nears_17 : decode cX7_nears 17 = .ok (.iadd, 1) := by decide +kernel
theorem dX7_nears_18 : decode cX7_nears 18 = .ok (.iload_n 3, 1) := by decide +kernel
theorem dX7_nears_19 : decode cX7_nears 19 = .ok (.ifCond .eq 18, 3) := by decide +kernel
theorem dX7_nears_22 : decode cX7_nears 22 = .ok (.aload_n 0, 1) := by decide +kernel
theorem dX7_nears_23 : decode cX7_nears 23 = .ok (.getfield 20, 3) := by decide +kernel
theorem dX7_nears_26 : decode cX7_nears 26 = .ok (.bipush 13, 2) := by decide +kernel
theorem dX7_nears_28 : decode cX7_nears 28 = .ok (.iload_n 1, 1) := by decide +kernel
theorem dX7_nears_29 : decode cX7_nears 29 = .ok (.iadd, 1) := by decide +kernel
theorem dX7_nears_30 : decode cX7_nears 30 = .ok (.iaload, 1) := by decide +kernel
theorem dX7_nears_31 : decode cX7_nears 31 = .ok (.iload 4, 2) := by decide +kernel
theorem dX7_nears_33 : decode cX7_nears 33 = .ok (.ior, 1) := by decide +kernel
theorem dX7_nears_34 : decode cX7_nears 34 = .ok (.goto 17, 3) := by decide +kernel
theorem dX7_nears_37 : decode cX7_nears 37 = .ok (.aload_n 0, 1) := by decide +kernel
theorem dX7_nears_38 : decode cX7_nears 38 = .ok (.getfield 20, 3) := by decide +kernel
theorem dX7_nears_41 : decode cX7_nears 41 = .ok (.bipush 13, 2) := by decide +kernel
theorem dX7_nears_43 : decode cX7_nears 43 = .ok (.iload_n 1, 1) := by decide +kernel
theorem dX7_nears_44 : decode cX7_nears 44 = .ok (.iadd, 1) := by decide +kernel
theorem dX7_nears_45 : decode cX7_nears 45 = .ok (.iaload, 1) := by decide +kernel
theorem dX7_nears_46 : decode cX7_nears 46 = .ok (.iload 4, 2) := by decide +kernel
theorem dX7_nears_48 : decode cX7_nears 48 = .ok (.iconst (-1), 1) := by decide +kernel
theorem dX7_nears_49 : decode cX7_nears 49 = .ok (.ixor, 1) := by decide +kernel
theorem dX7_nears_50 : decode cX7_nears 50 = .ok (.iand, 1) := by decide +kernel
theorem dX7_nears_51 : decode cX7_nears 51 = .ok (.iastore, 1) := by decide +kernel
theorem dX7_nears_52 : decode cX7_nears 52 = .ok (.aload_n 0, 1) := by decide +kernel
theorem dX7_nears_53 : decode cX7_nears 53 = .ok (.getfield 20, 3) := by decide +kernel
theorem dX7_nears_56 : decode cX7_nears 56 = .ok (.bipush 13, 2) := by decide +kernel
theorem dX7_nears_58 : decode cX7_nears 58 = .ok (.iload_n 2, 1) := by decide +kernel
theorem dX7_nears_59 : decode cX7_nears 59 = .ok (.iadd, 1) := by decide +kernel
theorem dX7_nears_60 : decode cX7_nears 60 = .ok (.iload_n 3, 1) := by decide +kernel
theorem dX7_nears_61 : decode cX7_nears 61 = .ok (.ifCond .eq 18, 3) := by decide +kernel
theorem dX7_nears_64 : decode cX7_nears 64 = .ok (.aload_n 0, 1) := by decide +kernel
theorem dX7_nears_65 : decode cX7_nears 65 = .ok (.getfield 20, 3) := by decide +kernel
theorem dX7_nears_68 : decode cX7_nears 68 = .ok (.bipush 13, 2) := by decide +kernel
theorem dX7_nears_70 : decode cX7_nears 70 = .ok (.iload_n 2, 1) := by decide +kernel
theorem dX7_nears_71 : decode cX7_nears 71 = .ok (.iadd, 1) := by decide +kernel
theorem dX7_nears_72 : decode cX7_nears 72 = .ok (.iaload, 1) := by decide +kernel
theorem dX7_nears_73 : decode cX7_nears 73 = .ok (.iload 5, 2) := by decide +kernel
theorem dX7_nears_75 : decode cX7_nears 75 = .ok (.ior, 1) := by decide +kernel
theorem dX7_nears_76 : decode cX7_nears 76 = .ok (.goto 17, 3) := by decide +kernel
theorem dX7_nears_79 : decode cX7_nears 79 = .ok (.aload_n 0, 1) := by decide +kernel
theorem dX7_nears_80 : decode cX7_nears 80 = .ok (.getfield 20, 3) := by decide +kernel
theorem dX7_nears_83 : decode cX7_nears 83 = .ok (.bipush 13, 2) := by decide +kernel
theorem dX7_nears_85 : decode cX7_nears 85 = .ok (.iload_n 2, 1) := by decide +kernel
theorem dX7_nears_86 : decode cX7_nears 86 = .ok (.iadd, 1) := by decide +kernel
theorem dX7_nears_87 : decode cX7_nears 87 = .ok (.iaload, 1) := by decide +kernel
theorem dX7_nears_88 : decode cX7_nears 88 = .ok (.iload 5, 2) := by decide +kernel
theorem dX7_nears_90 : decode cX7_nears 90 = .ok (.iconst (-1), 1) := by decide +kernel
theorem dX7_nears_91 : decode cX7_nears 91 = .ok (.ixor, 1) := by decide +kernel
theorem dX7_nears_92 : decode cX7_nears 92 = .ok (.iand, 1) := by decide +kernel
theorem dX7_nears_93 : decode cX7_nears 93 = .ok (.iastore, 1) := by decide +kernel
theorem dX7_nears_94 : decode cX7_nears 94 = .ok (.return_, 1) := by decide +kernel
theorem dX7_readsNear_0 : decode cX7_readsNear 0 = .ok (.aload_n 0, 1) := by decide +kernel
theorem dX7_readsNear_1 : decode cX7_readsNear 1 = .ok (.invokevirtual 131, 3) := by decide +kernel
theorem dX7_readsNear_4 : decode cX7_readsNear 4 = .ok (.aload_n 0, 1) := by decide +kernel
theorem dX7_readsNear_5 : decode cX7_readsNear 5 = .ok (.invokevirtual 205, 3) := by decide +kernel
theorem dX7_readsNear_8 : decode cX7_readsNear 8 = .ok (.istore_n 1, 1) := by decide +kernel
theorem dX7_readsNear_9 : decode cX7_readsNear 9 = .ok (.aload_n 0, 1) := by decide +kernel
theorem dX7_readsNear_10 : decode cX7_readsNear 10 = .ok (.invokevirtual 170, 3) := by decide +kernel
theorem dX7_readsNear_13 : decode cX7_readsNear 13 = .ok (.aload_n 0, 1) := by decide +kernel
theorem dX7_readsNear_14 : decode cX7_readsNear 14 = .ok (.invokevirtual 121, 3) := by decide +kernel
theorem dX7_readsNear_17 : decode cX7_readsNear 17 = .ok (.ifCond .eq 10, 3) := by decide +kernel
theorem dX7_readsNear_20 : decode cX7_readsNear 20 = .ok (.aload_n 0, 1) := by decide +kernel
theorem dX7_readsNear_21 : decode cX7_readsNear 21 = .ok (.invokevirtual 173, 3) := by decide +kernel
theorem dX7_readsNear_24 : decode cX7_readsNear 24 = .ok (.goto 4, 3) := by decide +kernel
theorem dX7_readsNear_27 : decode cX7_readsNear 27 = .ok (.iconst (-1), 1) := by decide +kernel
theorem dX7_readsNear_28 : decode cX7_readsNear 28 = .ok (.istore_n 2, 1) := by decide +kernel
theorem dX7_readsNear_29 : decode cX7_readsNear 29 = .ok (.aload_n 0, 1) := by decide +kernel
theorem dX7_readsNear_30 : decode cX7_readsNear 30 = .ok (.invokevirtual 121, 3) := by decide +kernel
theorem dX7_readsNear_33 : decode cX7_readsNear 33 = .ok (.ifCond .eq 27, 3) := by decide +kernel
theorem dX7_readsNear_36 : decode cX7_readsNear 36 = .ok (.iload_n 2, 1) := by decide +kernel
theorem dX7_readsNear_37 : decode cX7_readsNear 37 = .ok (.iconst (-1), 1) := by decide +kernel
theorem dX7_readsNear_38 : decode cX7_readsNear 38 = .ok (.if_icmp .eq 22, 3) := by decide +kernel
theorem dX7_readsNear_41 : decode cX7_readsNear 41 = .ok (.iload_n 2, 1) := by decide +kernel
theorem dX7_readsNear_42 : decode cX7_readsNear 42 = .ok (.iload_n 1, 1) := by decide +kernel
theorem dX7_readsNear_43 : decode cX7_readsNear 43 = .ok (.if_icmp .eq 12, 3) := by decide +kernel
theorem dX7_readsNear_46 : decode cX7_readsNear 46 = .ok (.aload_n 0, 1) := by decide +kernel
theorem dX7_readsNear_47 : decode cX7_readsNear 47 = .ok (.iload_n 1, 1) := by decide +kernel
theorem dX7_readsNear_48 : decode cX7_readsNear 48 = .ok (.iload_n 2, 1) := by decide +kernel
theorem dX7_readsNear_49 : decode cX7_readsNear 49 = .ok (.invokevirtual 208, 3) := by decide +kernel
theorem dX7_readsNear_52 : decode cX7_readsNear 52 = .ok (.ifCond .eq 8, 3) := by decide +kernel
theorem dX7_readsNear_55 : decode cX7_readsNear 55 = .ok (.aload_n 0, 1) := by decide +kernel
theorem dX7_readsNear_56 : decode cX7_readsNear 56 = .ok (.iconst 3, 1) := by decide +kernel
theorem dX7_readsNear_57 : decode cX7_readsNear 57 = .ok (.invokevirtual 128, 3) := by decide +kernel
theorem dX7_readsNear_60 : decode cX7_readsNear 60 = .ok (.aload_n 0, 1) := by decide +kernel
theorem dX7_readsNear_61 : decode cX7_readsNear 61 = .ok (.invokevirtual 121, 3) := by decide +kernel
theorem dX7_readsNear_64 : decode cX7_readsNear 64 = .ok (.ifCond .eq 13, 3) := by decide +kernel
theorem dX7_readsNear_67 : decode cX7_readsNear 67 = .ok (.iload_n 2, 1) := by decide +kernel
theorem dX7_readsNear_68 : decode cX7_readsNear 68 = .ok (.iconst (-1), 1) := by decide +kernel
theorem dX7_readsNear_69 : decode cX7_readsNear 69 = .ok (.if_icmp .ne 8, 3) := by decide +kernel
theorem dX7_readsNear_72 : decode cX7_readsNear 72 = .ok (.aload_n 0, 1) := by decide +kernel
theorem dX7_readsNear_73 : decode cX7_readsNear 73 = .ok (.iconst 4, 1) := by decide +kernel
theorem dX7_readsNear_74 : decode cX7_readsNear 74 = .ok (.invokevirtual 128, 3) := by decide +kernel
theorem dX7_readsNear_77 : decode cX7_readsNear 77 = .ok (.aload_n 0, 1) := by decide +kernel
theorem dX7_readsNear_78 : decode cX7_readsNear 78 = .ok (.invokevirtual 121, 3) := by decide +kernel
theorem dX7_readsNear_81 : decode cX7_readsNear 81 = .ok (.ifCond .ne 4, 3) := by decide +kernel
theorem dX7_readsNear_84 : decode cX7_readsNear 84 = .ok (.return_, 1) := by decide +kernel
theorem dX7_readsNear_85 : decode cX7_readsNear 85 = .ok (.aload_n 0, 1) := by decide +kernel
theorem dX7_readsNear_86 : decode cX7_readsNear 86 = .ok (.invokevirtual 131, 3) := by decide +kernel
theorem dX7_readsNear_89 : decode cX7_readsNear 89 = .ok (.aload_n 0, 1) := by decide +kernel
theorem dX7_readsNear_90 : decode cX7_readsNear 90 = .ok (.iload_n 1, 1) := by decide +kernel
theorem dX7_readsNear_91 : decode cX7_readsNear 91 = .ok (.iload_n 2, 1) := by decide +kernel
theorem dX7_readsNear_92 : decode cX7_readsNear 92 = .ok (.iconst 1, 1) := by decide +kernel
theorem dX7_readsNear_93 : decode cX7_readsNear 93 = .ok (.invokevirtual 211, 3) := by decide +kernel
theorem dX7_readsNear_96 : decode cX7_readsNear 96 = .ok (.return_, 1) := by decide +kernel
theorem dX7_statement_0 : decode cX7_statement 0 = .ok (.aload_n 0, 1) := by decide +kernel
theorem dX7_statement_1 : decode cX7_statement 1 = .ok (.ldc2_w 215, 3) := by decide +kernel
theorem dX7_statement_4 : decode cX7_statement 4 = .ok (.invokevirtual 134, 3) := by decide +kernel
theorem dX7_statement_7 : decode cX7_statement 7 = .ok (.ifCond .eq 40, 3) := by decide +kernel
theorem dX7_statement_10 : decode cX7_statement 10 = .ok (.aload_n 0, 1) := by decide +kernel
theorem dX7_statement_11 : decode cX7_statement 11 = .ok (.iconst 0, 1) := by decide +kernel
theorem dX7_statement_12 : decode cX7_statement 12 = .ok (.invokevirtual 217, 3) := by decide +kernel
theorem dX7_statement_15 : decode cX7_statement 15 = .ok (.iconst 0, 1) := by decide +kernel
theorem dX7_statement_16 : decode cX7_statement 16 = .ok (.istore_n 1, 1) := by decide +kernel
theorem dX7_statement_17 : decode cX7_statement 17 = .ok (.iload_n 1, 1) := by decide +kernel
theorem dX7_statement_18 : decode cX7_statement 18 = .ok (.iconst 4, 1) := by decide +kernel
theorem dX7_statement_19 : decode cX7_statement 19 = .ok (.if_icmp .ge 25, 3) := by decide +kernel
theorem dX7_statement_22 : decode cX7_statement 22 = .ok (.aload_n 0, 1) := by decide +kernel
theorem dX7_statement_23 : decode cX7_statement 23 = .ok (.getfield 20, 3) := by decide +kernel
theorem dX7_statement_26 : decode cX7_statement 26 = .ok (.bipush 8, 2) := by decide +kernel
theorem dX7_statement_28 : decode cX7_statement 28 = .ok (.iload_n 1, 1) := by decide +kernel
theorem dX7_statement_29 : decode cX7_statement 29 = .ok (.iadd, 1) := by decide +kernel
theorem dX7_statement_30 : decode cX7_statement 30 = .ok (.aload_n 0, 1) := by decide +kernel
theorem dX7_statement_31 : decode cX7_statement 31 = .ok (.iconst 0, 1) := by decide +kernel
theorem dX7_statement_32 : decode cX7_statement 32 = .ok (.bipush 99, 2) := by decide +kernel
theorem dX7_statement_34 : decode cX7_statement 34 = .ok (.invokevirtual 184, 3) := by decide +kernel
theorem dX7_statement_37 : decode cX7_statement 37 = .ok (.iastore, 1) := by decide +kernel
theorem dX7_statement_38 : decode cX7_statement 38 = .ok (.iinc 1 1, 3) := by decide +kernel
theorem dX7_statement_41 : decode cX7_statement 41 = .ok (.goto (-24), 3) := by decide +kernel
theorem dX7_statement_44 : decode cX7_statement 44 = .ok (.goto 138, 3) := by decide +kernel
theorem dX7_statement_47 : decode cX7_statement 47 = .ok (.aload_n 0, 1) := by decide +kernel
theorem dX7_statement_48 : decode cX7_statement 48 = .ok (.ldc2_w 220, 3) := by decide +kernel
theorem dX7_statement_51 : decode cX7_statement 51 = .ok (.invokevirtual 134, 3) := by decide +kernel
theorem dX7_statement_54 : decode cX7_statement 54 = .ok (.ifCond .eq 26, 3) := by decide +kernel
theorem dX7_statement_57 : decode cX7_statement 57 = .ok (.aload_n 0, 1) := by decide +kernel
theorem dX7_statement_58 : decode cX7_statement 58 = .ok (.iconst 1, 1) := by decide +kernel
theorem dX7_statement_59 : decode cX7_statement 59 = .ok (.invokevirtual 217, 3) := by decide +kernel
theorem dX7_statement_62 : decode cX7_statement 62 = .ok (.aload_n 0, 1) := by decide +kernel
theorem dX7_statement_63 : decode cX7_statement 63 = .ok (.getfield 20, 3) := by decide +kernel
theorem dX7_statement_66 : decode cX7_statement 66 = .ok (.bipush 7, 2) := by decide +kernel
theorem dX7_statement_68 : decode cX7_statement 68 = .ok (.aload_n 0, 1) := by decide +kernel
theorem dX7_statement_69 : decode cX7_statement 69 = .ok (.iconst 0, 1) := by decide +kernel
theorem dX7_statement_70 : decode cX7_statement 70 = .ok (.sipush 999, 3) := by decide +kernel
theorem dX7_statement_73 : decode cX7_statement 73 = .ok (.invokevirtual 184, 3) := by decide +kernel
theorem dX7_statement_76 : decode cX7_statement 76 = .ok (.iastore, 1) := by decide +kernel
theorem dX7_statement_77 : decode cX7_statement 77 = .ok (.goto 105, 3) := by decide +kernel
theorem dX7_statement_80 : decode cX7_statement 80 = .ok (.aload_n 0, 1) := by decide +kernel
theorem dX7_statement_81 : decode cX7_statement 81 = .ok (.ldc2_w 222, 3) := by decide +kernel
theorem dX7_statement_84 : decode cX7_statement 84 = .ok (.invokevirtual 134, 3) := by decide +kernel
theorem dX7_statement_87 : decode cX7_statement 87 = .ok (.ifCond .eq 24, 3) := by decide +kernel
theorem dX7_statement_90 : decode cX7_statement 90 = .ok (.aload_n 0, 1) := by decide +kernel
theorem dX7_statement_91 : decode cX7_statement 91 = .ok (.iconst 2, 1) := by decide +kernel
theorem dX7_statement_92 : decode cX7_statement 92 = .ok (.invokevirtual 217, 3) := by decide +kernel
theorem dX7_statement_95 : decode cX7_statement 95 = .ok (.aload_n 0, 1) := by decide +kernel
theorem dX7_statement_96 : decode cX7_statement 96 = .ok (.getfield 20, 3) := by decide +kernel
theorem dX7_statement_99 : decode cX7_statement 99 = .ok (.iconst 2, 1) := by decide +kernel
theorem dX7_statement_100 : decode cX7_statement 100 = .ok (.aload_n 0, 1) := by decide +kernel
theorem dX7_statement_101 : decode cX7_statement 101 = .ok (.iconst 1, 1) := by decide +kernel
theorem dX7_statement_102 : decode cX7_statement 102 = .ok (.bipush 9, 2) := by decide +kernel
theorem dX7_statement_104 : decode cX7_statement 104 = .ok (.invokevirtual 184, 3) := by decide +kernel
theorem dX7_statement_107 : decode cX7_statement 107 = .ok (.iastore, 1) := by decide +kernel
theorem dX7_statement_108 : decode cX7_statement 108 = .ok (.goto 74, 3) := by decide +kernel
theorem dX7_statement_111 : decode cX7_statement 111 = .ok (.aload_n 0, 1) := by decide +kernel
theorem dX7_statement_112 : decode cX7_statement 112 = .ok (.ldc2_w 224, 3) := by decide +kernel
theorem dX7_statement_115 : decode cX7_statement 115 = .ok (.invokevirtual 134, 3) := by decide +kernel
theorem dX7_statement_118 : decode cX7_statement 118 = .ok (.ifCond .eq 25, 3) := by decide +kernel
theorem dX7_statement_121 : decode cX7_statement 121 = .ok (.aload_n 0, 1) := by decide +kernel
theorem dX7_statement_122 : decode cX7_statement 122 = .ok (.iconst 3, 1) := by decide +kernel
theorem dX7_statement_123 : decode cX7_statement 123 = .ok (.invokevirtual 217, 3) := by decide +kernel
theorem dX7_statement_126 : decode cX7_statement 126 = .ok (.aload_n 0, 1) := by decide +kernel
theorem dX7_statement_127 : decode cX7_statement 127 = .ok (.getfield 20, 3) := by decide +kernel
theorem dX7_statement_130 : decode cX7_statement 130 = .ok (.iconst 3, 1) := by decide +kernel
theorem dX7_statement_131 : decode cX7_statement 131 = .ok (.aload_n 0, 1) := by decide +kernel
theorem dX7_statement_132 : decode cX7_statement 132 = .ok (.iconst 1, 1) := by decide +kernel
theorem dX7_statement_133 : decode cX7_statement 133 = .ok (.sipush 999, 3) := by decide +kernel
theorem dX7_statement_136 : decode cX7_statement 136 = .ok (.invokevirtual 184, 3) := by decide +kernel
theorem dX7_statement_139 : decode cX7_statement 139 = .ok (.iastore, 1) := by decide +kernel
theorem dX7_statement_140 : decode cX7_statement 140 = .ok (.goto 42, 3) := by decide +kernel
theorem dX7_statement_143 : decode cX7_statement 143 = .ok (.aload_n 0, 1) := by decide +kernel
theorem dX7_statement_144 : decode cX7_statement 144 = .ok (.ldc2_w 226, 3) := by decide +kernel
theorem dX7_statement_147 : decode cX7_statement 147 = .ok (.invokevirtual 134, 3) := by decide +kernel
theorem dX7_statement_150 : decode cX7_statement 150 = .ok (.ifCond .eq 10, 3) := by decide +kernel
theorem dX7_statement_153 : decode cX7_statement 153 = .ok (.aload_n 0, 1) := by decide +kernel
theorem dX7_statement_154 : decode cX7_statement 154 = .ok (.invokevirtual 228, 3) := by decide +kernel
theorem dX7_statement_157 : decode cX7_statement 157 = .ok (.goto 25, 3) := by decide +kernel
theorem dX7_statement_160 : decode cX7_statement 160 = .ok (.aload_n 0, 1) := by decide +kernel
theorem dX7_statement_161 : decode cX7_statement 161 = .ok (.ldc2_w 231, 3) := by decide +kernel
theorem dX7_statement_164 : decode cX7_statement 164 = .ok (.invokevirtual 134, 3) := by decide +kernel
theorem dX7_statement_167 : decode cX7_statement 167 = .ok (.ifCond .eq 10, 3) := by decide +kernel
theorem dX7_statement_170 : decode cX7_statement 170 = .ok (.aload_n 0, 1) := by decide +kernel
theorem dX7_statement_171 : decode cX7_statement 171 = .ok (.invokevirtual 233, 3) := by decide +kernel
theorem dX7_statement_174 : decode cX7_statement 174 = .ok (.goto 8, 3) := by decide +kernel
theorem dX7_statement_177 : decode cX7_statement 177 = .ok (.aload_n 0, 1) := by decide +kernel
theorem dX7_statement_178 : decode cX7_statement 178 = .ok (.iconst 1, 1) := by decide +kernel
theorem dX7_statement_179 : decode cX7_statement 179 = .ok (.invokevirtual 128, 3) := by decide +kernel
theorem dX7_statement_182 : decode cX7_statement 182 = .ok (.aload_n 0, 1) := by decide +kernel
theorem dX7_statement_183 : decode cX7_statement 183 = .ok (.bipush 59, 2) := by decide +kernel
theorem dX7_statement_185 : decode cX7_statement 185 = .ok (.invokevirtual 236, 3) := by decide +kernel
theorem dX7_statement_188 : decode cX7_statement 188 = .ok (.return_, 1) := by decide +kernel
theorem dX7_readText_0 : decode cX7_readText 0 = .ok (.aload_n 0, 1) := by decide +kernel
theorem dX7_readText_1 : decode cX7_readText 1 = .ok (.invokevirtual 239, 3) := by decide +kernel
theorem dX7_readText_4 : decode cX7_readText 4 = .ok (.aload_n 0, 1) := by decide +kernel
theorem dX7_readText_5 : decode cX7_readText 5 = .ok (.invokevirtual 242, 3) := by decide +kernel
theorem dX7_readText_8 : decode cX7_readText 8 = .ok (.aload_n 0, 1) := by decide +kernel
theorem dX7_readText_9 : decode cX7_readText 9 = .ok (.getfield 35, 3) := by decide +kernel
theorem dX7_readText_12 : decode cX7_readText 12 = .ok (.aload_n 0, 1) := by decide +kernel
theorem dX7_readText_13 : decode cX7_readText 13 = .ok (.getfield 42, 3) := by decide +kernel
theorem dX7_readText_16 : decode cX7_readText 16 = .ok (.invokestatic 162, 3) := by decide +kernel
theorem dX7_readText_19 : decode cX7_readText 19 = .ok (.aload_n 0, 1) := by decide +kernel
theorem dX7_readText_20 : decode cX7_readText 20 = .ok (.invokevirtual 63, 3) := by decide +kernel
theorem dX7_readText_23 : decode cX7_readText 23 = .ok (.aload_n 0, 1) := by decide +kernel
theorem dX7_readText_24 : decode cX7_readText 24 = .ok (.iconst 0, 1) := by decide +kernel
theorem dX7_readText_25 : decode cX7_readText 25 = .ok (.putfield 177, 3) := by decide +kernel
theorem dX7_readText_28 : decode cX7_readText 28 = .ok (.aload_n 0, 1) := by decide +kernel
theorem dX7_readText_29 : decode cX7_readText 29 = .ok (.invokevirtual 121, 3) := by decide +kernel
theorem dX7_readText_32 : decode cX7_readText 32 = .ok (.ifCond .eq 17, 3) := by decide +kernel
theorem dX7_readText_35 : decode cX7_readText 35 = .ok (.aload_n 0, 1) := by decide +kernel
theorem dX7_readText_36 : decode cX7_readText 36 = .ok (.getfield 108, 3) := by decide +kernel
theorem dX7_readText_39 : decode cX7_readText 39 = .ok (.ifCond .eq 10, 3) := by decide +kernel
theorem dX7_readText_42 : decode cX7_readText 42 = .ok (.aload_n 0, 1) := by decide +kernel
theorem dX7_readText_43 : decode cX7_readText 43 = .ok (.invokevirtual 245, 3) := by decide +kernel
theorem dX7_readText_46 : decode cX7_readText 46 = .ok (.goto (-18), 3) := by decide +kernel
theorem dX7_readText_49 : decode cX7_readText 49 = .ok (.aload_n 0, 1) := by decide +kernel
theorem dX7_readText_50 : decode cX7_readText 50 = .ok (.invokevirtual 248, 3) := by decide +kernel
theorem dX7_readText_53 : decode cX7_readText 53 = .ok (.ifCond .ne 29, 3) := by decide +kernel
theorem dX7_readText_56 : decode cX7_readText 56 = .ok (.aload_n 0, 1) := by decide +kernel
theorem dX7_readText_57 : decode cX7_readText 57 = .ok (.getfield 26, 3) := by decide +kernel
theorem dX7_readText_60 : decode cX7_readText 60 = .ok (.iconst 0, 1) := by decide +kernel
theorem dX7_readText_61 : decode cX7_readText 61 = .ok (.aload_n 0, 1) := by decide +kernel
theorem dX7_readText_62 : decode cX7_readText 62 = .ok (.getfield 20, 3) := by decide +kernel
theorem dX7_readText_65 : decode cX7_readText 65 = .ok (.iconst 0, 1) := by decide +kernel
theorem dX7_readText_66 : decode cX7_readText 66 = .ok (.invokestatic 152, 3) := by decide +kernel
theorem dX7_readText_69 : decode cX7_readText 69 = .ok (.aload_n 0, 1) := by decide +kernel
theorem dX7_readText_70 : decode cX7_readText 70 = .ok (.getfield 42, 3) := by decide +kernel
theorem dX7_readText_73 : decode cX7_readText 73 = .ok (.aload_n 0, 1) := by decide +kernel
theorem dX7_readText_74 : decode cX7_readText 74 = .ok (.getfield 35, 3) := by decide +kernel
theorem dX7_readText_77 : decode cX7_readText 77 = .ok (.invokestatic 162, 3) := by decide +kernel
theorem dX7_readText_80 : decode cX7_readText 80 = .ok (.iconst 0, 1) := by decide +kernel
theorem dX7_readText_81 : decode cX7_readText 81 = .ok (.ireturn, 1) := by decide +kernel
theorem dX7_readText_82 : decode cX7_readText 82 = .ok (.aload_n 0, 1) := by decide +kernel
theorem dX7_readText_83 : decode cX7_readText 83 = .ok (.iconst 0, 1) := by decide +kernel
theorem dX7_readText_84 : decode cX7_readText 84 = .ok (.putfield 156, 3) := by decide +kernel
theorem dX7_readText_87 : decode cX7_readText 87 = .ok (.aload_n 0, 1) := by decide +kernel
theorem dX7_readText_88 : decode cX7_readText 88 = .ok (.getfield 20, 3) := by decide +kernel
theorem dX7_readText_91 : decode cX7_readText 91 = .ok (.iconst 0, 1) := by decide +kernel
theorem dX7_readText_92 : decode cX7_readText 92 = .ok (.iaload, 1) := by decide +kernel
theorem dX7_readText_93 : decode cX7_readText 93 = .ok (.ireturn, 1) := by decide +kernel
theorem dX7_lesser_0 : decode cX7_lesser 0 = .ok (.iload_n 0, 1) := by decide +kernel
theorem dX7_lesser_1 : decode cX7_lesser 1 = .ok (.iload_n 1, 1) := by decide +kernel
theorem dX7_lesser_2 : decode cX7_lesser 2 = .ok (.if_icmp .ge 7, 3) := by decide +kernel
theorem dX7_lesser_5 : decode cX7_lesser 5 = .ok (.iload_n 0, 1) := by decide +kernel
theorem dX7_lesser_6 : decode cX7_lesser 6 = .ok (.goto 4, 3) := by decide +kernel
theorem dX7_lesser_9 : decode cX7_lesser 9 = .ok (.iload_n 1, 1) := by decide +kernel
theorem dX7_lesser_10 : decode cX7_lesser 10 = .ok (.ireturn, 1) := by decide +kernel
theorem dX7_greater_0 : decode cX7_greater 0 = .ok (.iload_n 0, 1) := by decide +kernel
theorem dX7_greater_1 : decode cX7_greater 1 = .ok (.iload_n 1, 1) := by decide +kernel
theorem dX7_greater_2 : decode cX7_greater 2 = .ok (.if_icmp .le 7, 3) := by decide +kernel
theorem dX7_greater_5 : decode cX7_greater 5 = .ok (.iload_n 0, 1) := by decide +kernel
theorem dX7_greater_6 : decode cX7_greater 6 = .ok (.goto 4, 3) := by decide +kernel
theorem dX7_greater_9 : decode cX7_greater 9 = .ok (.iload_n 1, 1) := by decide +kernel
theorem dX7_greater_10 : decode cX7_greater 10 = .ok (.ireturn, 1) := by decide +kernel
theorem dX7_bits_0 : decode cX7_bits 0 = .ok (.iconst 0, 1) := by decide +kernel
theorem dX7_bits_1 : decode cX7_bits 1 = .ok (.istore_n 1, 1) := by decide +kernel
theorem dX7_bits_2 : decode cX7_bits 2 = .ok (.iconst 0, 1) := by decide +kernel
theorem dX7_bits_3 : decode cX7_bits 3 = .ok (.istore_n 2, 1) := by decide +kernel
theorem dX7_bits_4 : decode cX7_bits 4 = .ok (.iload_n 2, 1) := by decide +kernel
theorem dX7_bits_5 : decode cX7_bits 5 = .ok (.bipush 8, 2) := by decide +kernel
theorem dX7_bits_7 : decode cX7_bits 7 = .ok (.if_icmp .ge 17, 3) := by decide +kernel
theorem dX7_bits_10 : decode cX7_bits 10 = .ok (.iload_n 1, 1) := by decide +kernel
theorem dX7_bits_11 : decode cX7_bits 11 = .ok (.iload_n 0, 1) := by decide +kernel
theorem dX7_bits_12 : decode cX7_bits 12 = .ok (.iload_n 2, 1) := by decide +kernel
theorem dX7_bits_13 : decode cX7_bits 13 = .ok (.ishr, 1) := by decide +kernel
theorem dX7_bits_14 : decode cX7_bits 14 = .ok (.iconst 1, 1) := by decide +kernel
theorem dX7_bits_15 : decode cX7_bits 15 = .ok (.iand, 1) := by decide +kernel
theorem dX7_bits_16 : decode cX7_bits 16 = .ok (.iadd, 1) := by decide +kernel
theorem dX7_bits_17 : decode cX7_bits 17 = .ok (.istore_n 1, 1) := by decide +kernel
theorem dX7_bits_18 : decode cX7_bits 18 = .ok (.iinc 2 1, 3) := by decide +kernel
theorem dX7_bits_21 : decode cX7_bits 21 = .ok (.goto (-17), 3) := by decide +kernel
theorem dX7_bits_24 : decode cX7_bits 24 = .ok (.iload_n 1, 1) := by decide +kernel
theorem dX7_bits_25 : decode cX7_bits 25 = .ok (.ireturn, 1) := by decide +kernel
theorem dX7_isAt_0 : decode cX7_isAt 0 = .ok (.aload_n 0, 1) := by decide +kernel
theorem dX7_isAt_1 : decode cX7_isAt 1 = .ok (.iload_n 1, 1) := by decide +kernel
theorem dX7_isAt_2 : decode cX7_isAt 2 = .ok (.iconst 5, 1) := by decide +kernel
theorem dX7_isAt_3 : decode cX7_isAt 3 = .ok (.invokevirtual 251, 3) := by decide +kernel
theorem dX7_isAt_6 : decode cX7_isAt 6 = .ok (.iload_n 2, 1) := by decide +kernel
theorem dX7_isAt_7 : decode cX7_isAt 7 = .ok (.if_icmp .ne 7, 3) := by decide +kernel
theorem dX7_isAt_10 : decode cX7_isAt 10 = .ok (.iconst 1, 1) := by decide +kernel
theorem dX7_isAt_11 : decode cX7_isAt 11 = .ok (.goto 4, 3) := by decide +kernel
theorem dX7_isAt_14 : decode cX7_isAt 14 = .ok (.iconst 0, 1) := by decide +kernel
theorem dX7_isAt_15 : decode cX7_isAt 15 = .ok (.ireturn, 1) := by decide +kernel
theorem dX7_isKnown_0 : decode cX7_isKnown 0 = .ok (.aload_n 0, 1) := by decide +kernel
theorem dX7_isKnown_1 : decode cX7_isKnown 1 = .ok (.iload_n 1, 1) := by decide +kernel
theorem dX7_isKnown_2 : decode cX7_isKnown 2 = .ok (.bipush 19, 2) := by decide +kernel
theorem dX7_isKnown_4 : decode cX7_isKnown 4 = .ok (.iload_n 2, 1) := by decide +kernel
theorem dX7_isKnown_5 : decode cX7_isKnown 5 = .ok (.iadd, 1) := by decide +kernel
theorem dX7_isKnown_6 : decode cX7_isKnown 6 = .ok (.invokevirtual 251, 3) := by decide +kernel
theorem dX7_isKnown_9 : decode cX7_isKnown 9 = .ok (.istore_n 3, 1) := by decide +kernel
theorem dX7_isKnown_10 : decode cX7_isKnown 10 = .ok (.iload_n 3, 1) := by decide +kernel
theorem dX7_isKnown_11 : decode cX7_isKnown 11 = .ok (.iconst (-1), 1) := by decide +kernel
theorem dX7_isKnown_12 : decode cX7_isKnown 12 = .ok (.if_icmp .eq 24, 3) := by decide +kernel
theorem dX7_isKnown_15 : decode cX7_isKnown 15 = .ok (.aload_n 0, 1) := by decide +kernel
theorem dX7_isKnown_16 : decode cX7_isKnown 16 = .ok (.getfield 20, 3) := by decide +kernel
theorem dX7_isKnown_19 : decode cX7_isKnown 19 = .ok (.iconst 1, 1) := by decide +kernel
theorem dX7_isKnown_20 : decode cX7_isKnown 20 = .ok (.iaload, 1) := by decide +kernel
theorem dX7_isKnown_21 : decode cX7_isKnown 21 = .ok (.iload_n 3, 1) := by decide +kernel
theorem dX7_isKnown_22 : decode cX7_isKnown 22 = .ok (.isub, 1) := by decide +kernel
theorem dX7_isKnown_23 : decode cX7_isKnown 23 = .ok (.aload_n 0, 1) := by decide +kernel
theorem dX7_isKnown_24 : decode cX7_isKnown 24 = .ok (.getfield 20, 3) := by decide +kernel
theorem dX7_isKnown_27 : decode cX7_isKnown 27 = .ok (.iconst 3, 1) := by decide +kernel
theorem dX7_isKnown_28 : decode cX7_isKnown 28 = .ok (.iaload, 1) := by decide +kernel
theorem dX7_isKnown_29 : decode cX7_isKnown 29 = .ok (.if_icmp .gt 7, 3) := by decide +kernel
theorem dX7_isKnown_32 : decode cX7_isKnown 32 = .ok (.iconst 1, 1) := by decide +kernel
theorem dX7_isKnown_33 : decode cX7_isKnown 33 = .ok (.goto 4, 3) := by decide +kernel
theorem dX7_isKnown_36 : decode cX7_isKnown 36 = .ok (.iconst 0, 1) := by decide +kernel
theorem dX7_isKnown_37 : decode cX7_isKnown 37 = .ok (.ireturn, 1) := by decide +kernel
theorem dX7_knownSet_0 : decode cX7_knownSet 0 = .ok (.iconst 0, 1) := by decide +kernel
theorem dX7_knownSet_1 : decode cX7_knownSet 1 = .ok (.istore_n 2, 1) := by decide +kernel
theorem dX7_knownSet_2 : decode cX7_knownSet 2 = .ok (.iconst 0, 1) := by decide +kernel
theorem dX7_knownSet_3 : decode cX7_knownSet 3 = .ok (.istore_n 3, 1) := by decide +kernel
theorem dX7_knownSet_4 : decode cX7_knownSet 4 = .ok (.iload_n 3, 1) := by decide +kernel
theorem dX7_knownSet_5 : decode cX7_knownSet 5 = .ok (.aload_n 0, 1) := by decide +kernel
theorem dX7_knownSet_6 : decode cX7_knownSet 6 = .ok (.getfield 20, 3) := by decide +kernel
theorem dX7_knownSet_9 : decode cX7_knownSet 9 = .ok (.iconst 0, 1) := by decide +kernel
theorem dX7_knownSet_10 : decode cX7_knownSet 10 = .ok (.iaload, 1) := by decide +kernel
theorem dX7_knownSet_11 : decode cX7_knownSet 11 = .ok (.if_icmp .ge 28, 3) := by decide +kernel
theorem dX7_knownSet_14 : decode cX7_knownSet 14 = .ok (.iload_n 2, 1) := by decide +kernel
theorem dX7_knownSet_15 : decode cX7_knownSet 15 = .ok (.aload_n 0, 1) := by decide +kernel
theorem dX7_knownSet_16 : decode cX7_knownSet 16 = .ok (.iload_n 1, 1) := by decide +kernel
theorem dX7_knownSet_17 : decode cX7_knownSet 17 = .ok (.iload_n 3, 1) := by decide +kernel
theorem dX7_knownSet_18 : decode cX7_knownSet 18 = .ok (.invokevirtual 254, 3) := by decide +kernel
theorem dX7_knownSet_21 : decode cX7_knownSet 21 = .ok (.ifCond .eq 9, 3) := by decide +kernel
theorem dX7_knownSet_24 : decode cX7_knownSet 24 = .ok (.iconst 1, 1) := by decide +kernel
theorem dX7_knownSet_25 : decode cX7_knownSet 25 = .ok (.iload_n 3, 1) := by decide +kernel
theorem dX7_knownSet_26 : decode cX7_knownSet 26 = .ok (.ishl, 1) := by decide +kernel
theorem dX7_knownSet_27 : decode cX7_knownSet 27 = .ok (.goto 4, 3) := by decide +kernel
theorem dX7_knownSet_30 : decode cX7_knownSet 30 = .ok (.iconst 0, 1) := by decide +kernel
theorem dX7_knownSet_31 : decode cX7_knownSet 31 = .ok (.ior, 1) := by decide +kernel
theorem dX7_knownSet_32 : decode cX7_knownSet 32 = .ok (.istore_n 2, 1) := by decide +kernel
theorem dX7_knownSet_33 : decode cX7_knownSet 33 = .ok (.iinc 3 1, 3) := by decide +kernel
theorem dX7_knownSet_36 : decode cX7_knownSet 36 = .ok (.goto (-32), 3) := by decide +kernel
theorem dX7_knownSet_39 : decode cX7_knownSet 39 = .ok (.iload_n 2, 1) := by decide +kernel
theorem dX7_knownSet_40 : decode cX7_knownSet 40 = .ok (.ireturn, 1) := by decide +kernel
theorem dX7_knowsAll_0 : decode cX7_knowsAll 0 = .ok (.aload_n 0, 1) := by decide +kernel
theorem dX7_knowsAll_1 : decode cX7_knowsAll 1 = .ok (.getfield 20, 3) := by decide +kernel
theorem dX7_knowsAll_4 : decode cX7_knowsAll 4 = .ok (.bipush 13, 2) := by decide +kernel
theorem dX7_knowsAll_6 : decode cX7_knowsAll 6 = .ok (.iload_n 1, 1) := by decide +kernel
theorem dX7_knowsAll_7 : decode cX7_knowsAll 7 = .ok (.iadd, 1) := by decide +kernel
theorem dX7_knowsAll_8 : decode cX7_knowsAll 8 = .ok (.iaload, 1) := by decide +kernel
theorem dX7_knowsAll_9 : decode cX7_knowsAll 9 = .ok (.aload_n 0, 1) := by decide +kernel
theorem dX7_knowsAll_10 : decode cX7_knowsAll 10 = .ok (.iload_n 1, 1) := by decide +kernel
theorem dX7_knowsAll_11 : decode cX7_knowsAll 11 = .ok (.invokevirtual 257, 3) := by decide +kernel
theorem dX7_knowsAll_14 : decode cX7_knowsAll 14 = .ok (.iconst (-1), 1) := by decide +kernel
theorem dX7_knowsAll_15 : decode cX7_knowsAll 15 = .ok (.ixor, 1) := by decide +kernel
theorem dX7_knowsAll_16 : decode cX7_knowsAll 16 = .ok (.iand, 1) := by decide +kernel
theorem dX7_knowsAll_17 : decode cX7_knowsAll 17 = .ok (.ifCond .ne 7, 3) := by decide +kernel
theorem dX7_knowsAll_20 : decode cX7_knowsAll 20 = .ok (.iconst 1, 1) := by decide +kernel
theorem dX7_knowsAll_21 : decode cX7_knowsAll 21 = .ok (.goto 4, 3) := by decide +kernel
theorem dX7_knowsAll_24 : decode cX7_knowsAll 24 = .ok (.iconst 0, 1) := by decide +kernel
theorem dX7_knowsAll_25 : decode cX7_knowsAll 25 = .ok (.ireturn, 1) := by decide +kernel
theorem dX7_windowOf_0 : decode cX7_windowOf 0 = .ok (.bipush 32, 2) := by decide +kernel
theorem dX7_windowOf_2 : decode cX7_windowOf 2 = .ok (.iconst 2, 1) := by decide +kernel
theorem dX7_windowOf_3 : decode cX7_windowOf 3 = .ok (.iconst 4, 1) := by decide +kernel
theorem dX7_windowOf_4 : decode cX7_windowOf 4 = .ok (.aload_n 0, 1) := by decide +kernel
theorem dX7_windowOf_5 : decode cX7_windowOf 5 = .ok (.iload_n 1, 1) := by decide +kernel
theorem dX7_windowOf_6 : decode cX7_windowOf 6 = .ok (.bipush 7, 2) := by decide +kernel
theorem dX7_windowOf_8 : decode cX7_windowOf 8 = .ok (.invokevirtual 251, 3) := by decide +kernel
theorem dX7_windowOf_11 : decode cX7_windowOf 11 = .ok (.invokestatic 260, 3) := by decide +kernel
theorem dX7_windowOf_14 : decode cX7_windowOf 14 = .ok (.ishl, 1) := by decide +kernel
theorem dX7_windowOf_15 : decode cX7_windowOf 15 = .ok (.invokestatic 260, 3) := by decide +kernel
theorem dX7_windowOf_18 : decode cX7_windowOf 18 = .ok (.ireturn, 1) := by decide +kernel
theorem dX7_draws_0 : decode cX7_draws 0 = .ok (.aload_n 0, 1) := by decide +kernel
theorem dX7_draws_1 : decode cX7_draws 1 = .ok (.getfield 20, 3) := by decide +kernel
theorem dX7_draws_4 : decode cX7_draws 4 = .ok (.bipush 7, 2) := by decide +kernel
theorem dX7_draws_6 : decode cX7_draws 6 = .ok (.aload_n 0, 1) := by decide +kernel
theorem dX7_draws_7 : decode cX7_draws 7 = .ok (.getfield 20, 3) := by decide +kernel
theorem dX7_draws_10 : decode cX7_draws 10 = .ok (.bipush 7, 2) := by decide +kernel
theorem dX7_draws_12 : decode cX7_draws 12 = .ok (.iaload, 1) := by decide +kernel
theorem dX7_draws_13 : decode cX7_draws 13 = .ok (.ldc_w 263, 3) := by decide +kernel
theorem dX7_draws_16 : decode cX7_draws 16 = .ok (.imul, 1) := by decide +kernel
theorem dX7_draws_17 : decode cX7_draws 17 = .ok (.sipush 12345, 3) := by decide +kernel
theorem dX7_draws_20 : decode cX7_draws 20 = .ok (.iadd, 1) := by decide +kernel
theorem dX7_draws_21 : decode cX7_draws 21 = .ok (.iastore, 1) := by decide +kernel
theorem dX7_draws_22 : decode cX7_draws 22 = .ok (.aload_n 0, 1) := by decide +kernel
theorem dX7_draws_23 : decode cX7_draws 23 = .ok (.getfield 20, 3) := by decide +kernel
theorem dX7_draws_26 : decode cX7_draws 26 = .ok (.bipush 7, 2) := by decide +kernel
theorem dX7_draws_28 : decode cX7_draws 28 = .ok (.iaload, 1) := by decide +kernel
theorem dX7_draws_29 : decode cX7_draws 29 = .ok (.bipush 16, 2) := by decide +kernel
theorem dX7_draws_31 : decode cX7_draws 31 = .ok (.iushr, 1) := by decide +kernel
theorem dX7_draws_32 : decode cX7_draws 32 = .ok (.iload_n 1, 1) := by decide +kernel
theorem dX7_draws_33 : decode cX7_draws 33 = .ok (.irem, 1) := by decide +kernel
theorem dX7_draws_34 : decode cX7_draws 34 = .ok (.ireturn, 1) := by decide +kernel
theorem dX7_isDueAt_0 : decode cX7_isDueAt 0 = .ok (.iload_n 2, 1) := by decide +kernel
theorem dX7_isDueAt_1 : decode cX7_isDueAt 1 = .ok (.aload_n 0, 1) := by decide +kernel
theorem dX7_isDueAt_2 : decode cX7_isDueAt 2 = .ok (.iload_n 1, 1) := by decide +kernel
theorem dX7_isDueAt_3 : decode cX7_isDueAt 3 = .ok (.iconst 1, 1) := by decide +kernel
theorem dX7_isDueAt_4 : decode cX7_isDueAt 4 = .ok (.invokevirtual 251, 3) := by decide +kernel
theorem dX7_isDueAt_7 : decode cX7_isDueAt 7 = .ok (.isub, 1) := by decide +kernel
theorem dX7_isDueAt_8 : decode cX7_isDueAt 8 = .ok (.istore_n 3, 1) := by decide +kernel
theorem dX7_isDueAt_9 : decode cX7_isDueAt 9 = .ok (.iload_n 3, 1) := by decide +kernel
theorem dX7_isDueAt_10 : decode cX7_isDueAt 10 = .ok (.ifCond .lt 18, 3) := by decide +kernel
theorem dX7_isDueAt_13 : decode cX7_isDueAt 13 = .ok (.iload_n 3, 1) := by decide +kernel
theorem dX7_isDueAt_14 : decode cX7_isDueAt 14 = .ok (.aload_n 0, 1) := by decide +kernel
theorem dX7_isDueAt_15 : decode cX7_isDueAt 15 = .ok (.iload_n 1, 1) := by decide +kernel
theorem dX7_isDueAt_16 : decode cX7_isDueAt 16 = .ok (.iconst 0, 1) := by decide +kernel
theorem dX7_isDueAt_17 : decode cX7_isDueAt 17 = .ok (.invokevirtual 251, 3) := by decide +kernel
theorem dX7_isDueAt_20 : decode cX7_isDueAt 20 = .ok (.irem, 1) := by decide +kernel
theorem dX7_isDueAt_21 : decode cX7_isDueAt 21 = .ok (.ifCond .ne 7, 3) := by decide +kernel
theorem dX7_isDueAt_24 : decode cX7_isDueAt 24 = .ok (.iconst 1, 1) := by decide +kernel
theorem dX7_isDueAt_25 : decode cX7_isDueAt 25 = .ok (.goto 4, 3) := by decide +kernel
theorem dX7_isDueAt_28 : decode cX7_isDueAt 28 = .ok (.iconst 0, 1) := by decide +kernel
theorem dX7_isDueAt_29 : decode cX7_isDueAt 29 = .ok (.ireturn, 1) := by decide +kernel
theorem dX7_enters_0 : decode cX7_enters 0 = .ok (.aload_n 0, 1) := by decide +kernel
theorem dX7_enters_1 : decode cX7_enters 1 = .ok (.iload_n 1, 1) := by decide +kernel
theorem dX7_enters_2 : decode cX7_enters 2 = .ok (.iconst 5, 1) := by decide +kernel
theorem dX7_enters_3 : decode cX7_enters 3 = .ok (.iload_n 2, 1) := by decide +kernel
theorem dX7_enters_4 : decode cX7_enters 4 = .ok (.invokevirtual 148, 3) := by decide +kernel
theorem dX7_enters_7 : decode cX7_enters 7 = .ok (.aload_n 0, 1) := by decide +kernel
theorem dX7_enters_8 : decode cX7_enters 8 = .ok (.iload_n 1, 1) := by decide +kernel
theorem dX7_enters_9 : decode cX7_enters 9 = .ok (.bipush 6, 2) := by decide +kernel
theorem dX7_enters_11 : decode cX7_enters 11 = .ok (.iload_n 3, 1) := by decide +kernel
theorem dX7_enters_12 : decode cX7_enters 12 = .ok (.invokevirtual 148, 3) := by decide +kernel
theorem dX7_enters_15 : decode cX7_enters 15 = .ok (.return_, 1) := by decide +kernel
theorem dX7_listens_0 : decode cX7_listens 0 = .ok (.aload_n 0, 1) := by decide +kernel
theorem dX7_listens_1 : decode cX7_listens 1 = .ok (.iload_n 1, 1) := by decide +kernel
theorem dX7_listens_2 : decode cX7_listens 2 = .ok (.bipush 8, 2) := by decide +kernel
theorem dX7_listens_4 : decode cX7_listens 4 = .ok (.iconst 0, 1) := by decide +kernel
theorem dX7_listens_5 : decode cX7_listens 5 = .ok (.invokevirtual 148, 3) := by decide +kernel
theorem dX7_listens_8 : decode cX7_listens 8 = .ok (.aload_n 0, 1) := by decide +kernel
theorem dX7_listens_9 : decode cX7_listens 9 = .ok (.iload_n 1, 1) := by decide +kernel
theorem dX7_listens_10 : decode cX7_listens 10 = .ok (.iconst 1, 1) := by decide +kernel
theorem dX7_listens_11 : decode cX7_listens 11 = .ok (.aload_n 0, 1) := by decide +kernel
theorem dX7_listens_12 : decode cX7_listens 12 = .ok (.iload_n 1, 1) := by decide +kernel
theorem dX7_listens_13 : decode cX7_listens 13 = .ok (.iconst 2, 1) := by decide +kernel
theorem dX7_listens_14 : decode cX7_listens 14 = .ok (.invokevirtual 251, 3) := by decide +kernel
theorem dX7_listens_17 : decode cX7_listens 17 = .ok (.invokevirtual 264, 3) := by decide +kernel
theorem dX7_listens_20 : decode cX7_listens 20 = .ok (.return_, 1) := by decide +kernel
theorem dX7_waits_0 : decode cX7_waits 0 = .ok (.aload_n 0, 1) := by decide +kernel
theorem dX7_waits_1 : decode cX7_waits 1 = .ok (.aload_n 0, 1) := by decide +kernel
theorem dX7_waits_2 : decode cX7_waits 2 = .ok (.iload_n 1, 1) := by decide +kernel
theorem dX7_waits_3 : decode cX7_waits 3 = .ok (.invokevirtual 267, 3) := by decide +kernel
theorem dX7_waits_6 : decode cX7_waits 6 = .ok (.invokevirtual 270, 3) := by decide +kernel
theorem dX7_waits_9 : decode cX7_waits 9 = .ok (.istore_n 2, 1) := by decide +kernel
theorem dX7_waits_10 : decode cX7_waits 10 = .ok (.aload_n 0, 1) := by decide +kernel
theorem dX7_waits_11 : decode cX7_waits 11 = .ok (.iload_n 1, 1) := by decide +kernel
theorem dX7_waits_12 : decode cX7_waits 12 = .ok (.iconst 2, 1) := by decide +kernel
theorem dX7_waits_13 : decode cX7_waits 13 = .ok (.iload_n 2, 1) := by decide +kernel
theorem dX7_waits_14 : decode cX7_waits 14 = .ok (.iconst 1, 1) := by decide +kernel
theorem dX7_waits_15 : decode cX7_waits 15 = .ok (.iadd, 1) := by decide +kernel
theorem dX7_waits_16 : decode cX7_waits 16 = .ok (.invokevirtual 264, 3) := by decide +kernel
theorem dX7_waits_19 : decode cX7_waits 19 = .ok (.return_, 1) := by decide +kernel
theorem dX7_begins_0 : decode cX7_begins 0 = .ok (.aload_n 0, 1) := by decide +kernel
theorem dX7_begins_1 : decode cX7_begins 1 = .ok (.iload_n 1, 1) := by decide +kernel
theorem dX7_begins_2 : decode cX7_begins 2 = .ok (.iconst 3, 1) := by decide +kernel
theorem dX7_begins_3 : decode cX7_begins 3 = .ok (.aload_n 0, 1) := by decide +kernel
theorem dX7_begins_4 : decode cX7_begins 4 = .ok (.iload_n 1, 1) := by decide +kernel
theorem dX7_begins_5 : decode cX7_begins 5 = .ok (.iconst 3, 1) := by decide +kernel
theorem dX7_begins_6 : decode cX7_begins 6 = .ok (.invokevirtual 251, 3) := by decide +kernel
theorem dX7_begins_9 : decode cX7_begins 9 = .ok (.invokevirtual 264, 3) := by decide +kernel
theorem dX7_begins_12 : decode cX7_begins 12 = .ok (.aload_n 0, 1) := by decide +kernel
theorem dX7_begins_13 : decode cX7_begins 13 = .ok (.iload_n 1, 1) := by decide +kernel
theorem dX7_begins_14 : decode cX7_begins 14 = .ok (.bipush 9, 2) := by decide +kernel
theorem dX7_begins_16 : decode cX7_begins 16 = .ok (.sipush 255, 3) := by decide +kernel
theorem dX7_begins_19 : decode cX7_begins 19 = .ok (.iconst 1, 1) := by decide +kernel
theorem dX7_begins_20 : decode cX7_begins 20 = .ok (.iload_n 1, 1) := by decide +kernel
theorem dX7_begins_21 : decode cX7_begins 21 = .ok (.ishl, 1) := by decide +kernel
theorem dX7_begins_22 : decode cX7_begins 22 = .ok (.iconst (-1), 1) := by decide +kernel
theorem dX7_begins_23 : decode cX7_begins 23 = .ok (.ixor, 1) := by decide +kernel
theorem dX7_begins_24 : decode cX7_begins 24 = .ok (.iand, 1) := by decide +kernel
theorem dX7_begins_25 : decode cX7_begins 25 = .ok (.invokevirtual 148, 3) := by decide +kernel
theorem dX7_begins_28 : decode cX7_begins 28 = .ok (.iconst 0, 1) := by decide +kernel
theorem dX7_begins_29 : decode cX7_begins 29 = .ok (.istore_n 2, 1) := by decide +kernel
theorem dX7_begins_30 : decode cX7_begins 30 = .ok (.iload_n 2, 1) := by decide +kernel
theorem dX7_begins_31 : decode cX7_begins 31 = .ok (.bipush 8, 2) := by decide +kernel
theorem dX7_begins_33 : decode cX7_begins 33 = .ok (.if_icmp .ge 19, 3) := by decide +kernel
theorem dX7_begins_36 : decode cX7_begins 36 = .ok (.aload_n 0, 1) := by decide +kernel
theorem dX7_begins_37 : decode cX7_begins 37 = .ok (.iload_n 1, 1) := by decide +kernel
theorem dX7_begins_38 : decode cX7_begins 38 = .ok (.bipush 27, 2) := by decide +kernel
theorem dX7_begins_40 : decode cX7_begins 40 = .ok (.iload_n 2, 1) := by decide +kernel
theorem dX7_begins_41 : decode cX7_begins 41 = .ok (.iadd, 1) := by decide +kernel
theorem dX7_begins_42 : decode cX7_begins 42 = .ok (.iconst 0, 1) := by decide +kernel
theorem dX7_begins_43 : decode cX7_begins 43 = .ok (.invokevirtual 148, 3) := by decide +kernel
theorem dX7_begins_46 : decode cX7_begins 46 = .ok (.iinc 2 1, 3) := by decide +kernel
theorem dX7_begins_49 : decode cX7_begins 49 = .ok (.goto (-19), 3) := by decide +kernel
theorem dX7_begins_52 : decode cX7_begins 52 = .ok (.return_, 1) := by decide +kernel
theorem dX7_isThrough_0 : decode cX7_isThrough 0 = .ok (.aload_n 0, 1) := by decide +kernel
theorem dX7_isThrough_1 : decode cX7_isThrough 1 = .ok (.iload_n 1, 1) := by decide +kernel
theorem dX7_isThrough_2 : decode cX7_isThrough 2 = .ok (.bipush 6, 2) := by decide +kernel
theorem dX7_isThrough_4 : decode cX7_isThrough 4 = .ok (.iconst (-1), 1) := by decide +kernel
theorem dX7_isThrough_5 : decode cX7_isThrough 5 = .ok (.invokevirtual 273, 3) := by decide +kernel
theorem dX7_isThrough_8 : decode cX7_isThrough 8 = .ok (.aload_n 0, 1) := by decide +kernel
theorem dX7_isThrough_9 : decode cX7_isThrough 9 = .ok (.iload_n 1, 1) := by decide +kernel
theorem dX7_isThrough_10 : decode cX7_isThrough 10 = .ok (.bipush 6, 2) := by decide +kernel
theorem dX7_isThrough_12 : decode cX7_isThrough 12 = .ok (.invokevirtual 251, 3) := by decide +kernel
theorem dX7_isThrough_15 : decode cX7_isThrough 15 = .ok (.ifCond .ne 7, 3) := by decide +kernel
theorem dX7_isThrough_18 : decode cX7_isThrough 18 = .ok (.iconst 1, 1) := by decide +kernel
theorem dX7_isThrough_19 : decode cX7_isThrough 19 = .ok (.goto 4, 3) := by decide +kernel
theorem dX7_isThrough_22 : decode cX7_isThrough 22 = .ok (.iconst 0, 1) := by decide +kernel
theorem dX7_isThrough_23 : decode cX7_isThrough 23 = .ok (.ireturn, 1) := by decide +kernel
theorem dX7_wakes_0 : decode cX7_wakes 0 = .ok (.aload_n 0, 1) := by decide +kernel
theorem dX7_wakes_1 : decode cX7_wakes 1 = .ok (.iload_n 1, 1) := by decide +kernel
theorem dX7_wakes_2 : decode cX7_wakes 2 = .ok (.aload_n 0, 1) := by decide +kernel
theorem dX7_wakes_3 : decode cX7_wakes 3 = .ok (.getfield 20, 3) := by decide +kernel
theorem dX7_wakes_6 : decode cX7_wakes 6 = .ok (.iconst 1, 1) := by decide +kernel
theorem dX7_wakes_7 : decode cX7_wakes 7 = .ok (.iaload, 1) := by decide +kernel
theorem dX7_wakes_8 : decode cX7_wakes 8 = .ok (.invokevirtual 276, 3) := by decide +kernel
theorem dX7_wakes_11 : decode cX7_wakes 11 = .ok (.ifCond .ne 4, 3) := by decide +kernel
theorem dX7_wakes_14 : decode cX7_wakes 14 = .ok (.return_, 1) := by decide +kernel
theorem dX7_wakes_15 : decode cX7_wakes 15 = .ok (.aload_n 0, 1) := by decide +kernel
theorem dX7_wakes_16 : decode cX7_wakes 16 = .ok (.getfield 20, 3) := by decide +kernel
theorem dX7_wakes_19 : decode cX7_wakes 19 = .ok (.bipush 13, 2) := by decide +kernel
theorem dX7_wakes_21 : decode cX7_wakes 21 = .ok (.iload_n 1, 1) := by decide +kernel
theorem dX7_wakes_22 : decode cX7_wakes 22 = .ok (.iadd, 1) := by decide +kernel
theorem dX7_wakes_23 : decode cX7_wakes 23 = .ok (.iaload, 1) := by decide +kernel
theorem dX7_wakes_24 : decode cX7_wakes 24 = .ok (.ifCond .eq 25, 3) := by decide +kernel
theorem dX7_wakes_27 : decode cX7_wakes 27 = .ok (.aload_n 0, 1) := by decide +kernel
theorem dX7_wakes_28 : decode cX7_wakes 28 = .ok (.iload_n 1, 1) := by decide +kernel
theorem dX7_wakes_29 : decode cX7_wakes 29 = .ok (.bipush 8, 2) := by decide +kernel
theorem dX7_wakes_31 : decode cX7_wakes 31 = .ok (.invokevirtual 251, 3) := by decide +kernel
theorem dX7_wakes_34 : decode cX7_wakes 34 = .ok (.ifCond .ne 15, 3) := by decide +kernel
theorem dX7_wakes_37 : decode cX7_wakes 37 = .ok (.aload_n 0, 1) := by decide +kernel
theorem dX7_wakes_38 : decode cX7_wakes 38 = .ok (.iload_n 1, 1) := by decide +kernel
theorem dX7_wakes_39 : decode cX7_wakes 39 = .ok (.invokevirtual 279, 3) := by decide +kernel
theorem dX7_wakes_42 : decode cX7_wakes 42 = .ok (.ifCond .eq 7, 3) := by decide +kernel
theorem dX7_wakes_45 : decode cX7_wakes 45 = .ok (.iconst 1, 1) := by decide +kernel
theorem dX7_wakes_46 : decode cX7_wakes 46 = .ok (.goto 4, 3) := by decide +kernel
theorem dX7_wakes_49 : decode cX7_wakes 49 = .ok (.iconst 0, 1) := by decide +kernel
theorem dX7_wakes_50 : decode cX7_wakes 50 = .ok (.istore_n 2, 1) := by decide +kernel
theorem dX7_wakes_51 : decode cX7_wakes 51 = .ok (.iload_n 2, 1) := by decide +kernel
theorem dX7_wakes_52 : decode cX7_wakes 52 = .ok (.ifCond .eq 14, 3) := by decide +kernel
theorem dX7_wakes_55 : decode cX7_wakes 55 = .ok (.aload_n 0, 1) := by decide +kernel
theorem dX7_wakes_56 : decode cX7_wakes 56 = .ok (.iload_n 1, 1) := by decide +kernel
theorem dX7_wakes_57 : decode cX7_wakes 57 = .ok (.bipush 8, 2) := by decide +kernel
theorem dX7_wakes_59 : decode cX7_wakes 59 = .ok (.iconst 1, 1) := by decide +kernel
theorem dX7_wakes_60 : decode cX7_wakes 60 = .ok (.invokevirtual 148, 3) := by decide +kernel
theorem dX7_wakes_63 : decode cX7_wakes 63 = .ok (.goto 8, 3) := by decide +kernel
theorem dX7_wakes_66 : decode cX7_wakes 66 = .ok (.aload_n 0, 1) := by decide +kernel
theorem dX7_wakes_67 : decode cX7_wakes 67 = .ok (.iload_n 1, 1) := by decide +kernel
theorem dX7_wakes_68 : decode cX7_wakes 68 = .ok (.invokevirtual 282, 3) := by decide +kernel
theorem dX7_wakes_71 : decode cX7_wakes 71 = .ok (.return_, 1) := by decide +kernel
theorem dX7_changes_0 : decode cX7_changes 0 = .ok (.aload_n 0, 1) := by decide +kernel
theorem dX7_changes_1 : decode cX7_changes 1 = .ok (.iload_n 1, 1) := by decide +kernel
theorem dX7_changes_2 : decode cX7_changes 2 = .ok (.iconst 5, 1) := by decide +kernel
theorem dX7_changes_3 : decode cX7_changes 3 = .ok (.invokevirtual 251, 3) := by decide +kernel
theorem dX7_changes_6 : decode cX7_changes 6 = .ok (.istore_n 2, 1) := by decide +kernel
theorem dX7_changes_7 : decode cX7_changes 7 = .ok (.iload_n 2, 1) := by decide +kernel
theorem dX7_changes_8 : decode cX7_changes 8 = .ok (.ifCond .ne 11, 3) := by decide +kernel
theorem dX7_changes_11 : decode cX7_changes 11 = .ok (.aload_n 0, 1) := by decide +kernel
theorem dX7_changes_12 : decode cX7_changes 12 = .ok (.iload_n 1, 1) := by decide +kernel
theorem dX7_changes_13 : decode cX7_changes 13 = .ok (.invokevirtual 285, 3) := by decide +kernel
theorem dX7_changes_16 : decode cX7_changes 16 = .ok (.goto 62, 3) := by decide +kernel
theorem dX7_changes_19 : decode cX7_changes 19 = .ok (.iload_n 2, 1) := by decide +kernel
theorem dX7_changes_20 : decode cX7_changes 20 = .ok (.iconst 1, 1) := by decide +kernel
theorem dX7_changes_21 : decode cX7_changes 21 = .ok (.if_icmp .ne 19, 3) := by decide +kernel
theorem dX7_changes_24 : decode cX7_changes 24 = .ok (.aload_n 0, 1) := by decide +kernel
theorem dX7_changes_25 : decode cX7_changes 25 = .ok (.iload_n 1, 1) := by decide +kernel
theorem dX7_changes_26 : decode cX7_changes 26 = .ok (.invokevirtual 288, 3) := by decide +kernel
theorem dX7_changes_29 : decode cX7_changes 29 = .ok (.ifCond .eq 49, 3) := by decide +kernel
theorem dX7_changes_32 : decode cX7_changes 32 = .ok (.aload_n 0, 1) := by decide +kernel
theorem dX7_changes_33 : decode cX7_changes 33 = .ok (.iload_n 1, 1) := by decide +kernel
theorem dX7_changes_34 : decode cX7_changes 34 = .ok (.invokevirtual 291, 3) := by decide +kernel
theorem dX7_changes_37 : decode cX7_changes 37 = .ok (.goto 41, 3) := by decide +kernel
theorem dX7_changes_40 : decode cX7_changes 40 = .ok (.iload_n 2, 1) := by decide +kernel
theorem dX7_changes_41 : decode cX7_changes 41 = .ok (.iconst 2, 1) := by decide +kernel
theorem dX7_changes_42 : decode cX7_changes 42 = .ok (.if_icmp .ne 36, 3) := by decide +kernel
theorem dX7_changes_45 : decode cX7_changes 45 = .ok (.aload_n 0, 1) := by decide +kernel
theorem dX7_changes_46 : decode cX7_changes 46 = .ok (.getfield 20, 3) := by decide +kernel
theorem dX7_changes_49 : decode cX7_changes 49 = .ok (.bipush 13, 2) := by decide +kernel
theorem dX7_changes_51 : decode cX7_changes 51 = .ok (.iload_n 1, 1) := by decide +kernel
theorem dX7_changes_52 : decode cX7_changes 52 = .ok (.iadd, 1) := by decide +kernel
theorem dX7_changes_53 : decode cX7_changes 53 = .ok (.iaload, 1) := by decide +kernel
theorem dX7_changes_54 : decode cX7_changes 54 = .ok (.aload_n 0, 1) := by decide +kernel
theorem dX7_changes_55 : decode cX7_changes 55 = .ok (.getfield 20, 3) := by decide +kernel
theorem dX7_changes_58 : decode cX7_changes 58 = .ok (.bipush 12, 2) := by decide +kernel
theorem dX7_changes_60 : decode cX7_changes 60 = .ok (.iaload, 1) := by decide +kernel
theorem dX7_changes_61 : decode cX7_changes 61 = .ok (.iand, 1) := by decide +kernel
theorem dX7_changes_62 : decode cX7_changes 62 = .ok (.ifCond .ne 16, 3) := by decide +kernel
theorem dX7_changes_65 : decode cX7_changes 65 = .ok (.aload_n 0, 1) := by decide +kernel
theorem dX7_changes_66 : decode cX7_changes 66 = .ok (.iload_n 1, 1) := by decide +kernel
theorem dX7_changes_67 : decode cX7_changes 67 = .ok (.invokevirtual 288, 3) := by decide +kernel
theorem dX7_changes_70 : decode cX7_changes 70 = .ok (.ifCond .eq 8, 3) := by decide +kernel
theorem dX7_changes_73 : decode cX7_changes 73 = .ok (.aload_n 0, 1) := by decide +kernel
theorem dX7_changes_74 : decode cX7_changes 74 = .ok (.iload_n 1, 1) := by decide +kernel
theorem dX7_changes_75 : decode cX7_changes 75 = .ok (.invokevirtual 294, 3) := by decide +kernel
theorem dX7_changes_78 : decode cX7_changes 78 = .ok (.return_, 1) := by decide +kernel
theorem dX7_pays_0 : decode cX7_pays 0 = .ok (.aload_n 0, 1) := by decide +kernel
theorem dX7_pays_1 : decode cX7_pays 1 = .ok (.iload_n 1, 1) := by decide +kernel
theorem dX7_pays_2 : decode cX7_pays 2 = .ok (.iconst 5, 1) := by decide +kernel
theorem dX7_pays_3 : decode cX7_pays 3 = .ok (.invokevirtual 251, 3) := by decide +kernel
theorem dX7_pays_6 : decode cX7_pays 6 = .ok (.istore_n 2, 1) := by decide +kernel
theorem dX7_pays_7 : decode cX7_pays 7 = .ok (.aload_n 0, 1) := by decide +kernel
theorem dX7_pays_8 : decode cX7_pays 8 = .ok (.iload_n 1, 1) := by decide +kernel
theorem dX7_pays_9 : decode cX7_pays 9 = .ok (.iconst 4, 1) := by decide +kernel
theorem dX7_pays_10 : decode cX7_pays 10 = .ok (.invokevirtual 251, 3) := by decide +kernel
theorem dX7_pays_13 : decode cX7_pays 13 = .ok (.aload_n 0, 1) := by decide +kernel
theorem dX7_pays_14 : decode cX7_pays 14 = .ok (.getfield 20, 3) := by decide +kernel
theorem dX7_pays_17 : decode cX7_pays 17 = .ok (.bipush 8, 2) := by decide +kernel
theorem dX7_pays_19 : decode cX7_pays 19 = .ok (.iload_n 2, 1) := by decide +kernel
theorem dX7_pays_20 : decode cX7_pays 20 = .ok (.iadd, 1) := by decide +kernel
theorem dX7_pays_21 : decode cX7_pays 21 = .ok (.iaload, 1) := by decide +kernel
theorem dX7_pays_22 : decode cX7_pays 22 = .ok (.invokestatic 260, 3) := by decide +kernel
theorem dX7_pays_25 : decode cX7_pays 25 = .ok (.istore_n 3, 1) := by decide +kernel
theorem dX7_pays_26 : decode cX7_pays 26 = .ok (.aload_n 0, 1) := by decide +kernel
theorem dX7_pays_27 : decode cX7_pays 27 = .ok (.iload_n 1, 1) := by decide +kernel
theorem dX7_pays_28 : decode cX7_pays 28 = .ok (.iconst 4, 1) := by decide +kernel
theorem dX7_pays_29 : decode cX7_pays 29 = .ok (.iload_n 3, 1) := by decide +kernel
theorem dX7_pays_30 : decode cX7_pays 30 = .ok (.ineg, 1) := by decide +kernel
theorem dX7_pays_31 : decode cX7_pays 31 = .ok (.invokevirtual 273, 3) := by decide +kernel
theorem dX7_pays_34 : decode cX7_pays 34 = .ok (.aload_n 0, 1) := by decide +kernel
theorem dX7_pays_35 : decode cX7_pays 35 = .ok (.iload_n 1, 1) := by decide +kernel
theorem dX7_pays_36 : decode cX7_pays 36 = .ok (.bipush 13, 2) := by decide +kernel
theorem dX7_pays_38 : decode cX7_pays 38 = .ok (.iload_n 3, 1) := by decide +kernel
theorem dX7_pays_39 : decode cX7_pays 39 = .ok (.invokevirtual 273, 3) := by decide +kernel
theorem dX7_pays_42 : decode cX7_pays 42 = .ok (.aload_n 0, 1) := by decide +kernel
theorem dX7_pays_43 : decode cX7_pays 43 = .ok (.iload_n 1, 1) := by decide +kernel
theorem dX7_pays_44 : decode cX7_pays 44 = .ok (.bipush 14, 2) := by decide +kernel
theorem dX7_pays_46 : decode cX7_pays 46 = .ok (.iload_n 2, 1) := by decide +kernel
theorem dX7_pays_47 : decode cX7_pays 47 = .ok (.iadd, 1) := by decide +kernel
theorem dX7_pays_48 : decode cX7_pays 48 = .ok (.iconst 1, 1) := by decide +kernel
theorem dX7_pays_49 : decode cX7_pays 49 = .ok (.invokevirtual 273, 3) := by decide +kernel
theorem dX7_pays_52 : decode cX7_pays 52 = .ok (.aload_n 0, 1) := by decide +kernel
theorem dX7_pays_53 : decode cX7_pays 53 = .ok (.iload_n 1, 1) := by decide +kernel
theorem dX7_pays_54 : decode cX7_pays 54 = .ok (.iconst 4, 1) := by decide +kernel
theorem dX7_pays_55 : decode cX7_pays 55 = .ok (.invokevirtual 251, 3) := by decide +kernel
theorem dX7_pays_58 : decode cX7_pays 58 = .ok (.ifCond .ne 10, 3) := by decide +kernel
theorem dX7_pays_61 : decode cX7_pays 61 = .ok (.aload_n 0, 1) := by decide +kernel
theorem dX7_pays_62 : decode cX7_pays 62 = .ok (.iload_n 1, 1) := by decide +kernel
theorem dX7_pays_63 : decode cX7_pays 63 = .ok (.iconst 4, 1) := by decide +kernel
theorem dX7_pays_64 : decode cX7_pays 64 = .ok (.iconst 0, 1) := by decide +kernel
theorem dX7_pays_65 : decode cX7_pays 65 = .ok (.invokevirtual 264, 3) := by decide +kernel
theorem dX7_pays_68 : decode cX7_pays 68 = .ok (.return_, 1) := by decide +kernel
theorem dX7_senders_0 : decode cX7_senders 0 = .ok (.iconst 0, 1) := by decide +kernel
theorem dX7_senders_1 : decode cX7_senders 1 = .ok (.istore_n 1, 1) := by decide +kernel
theorem dX7_senders_2 : decode cX7_senders 2 = .ok (.iconst 0, 1) := by decide +kernel
theorem dX7_senders_3 : decode cX7_senders 3 = .ok (.istore_n 2, 1) := by decide +kernel
theorem dX7_senders_4 : decode cX7_senders 4 = .ok (.iload_n 2, 1) := by decide +kernel
theorem dX7_senders_5 : decode cX7_senders 5 = .ok (.aload_n 0, 1) := by decide +kernel
theorem dX7_senders_6 : decode cX7_senders 6 = .ok (.getfield 20, 3) := by decide +kernel
theorem dX7_senders_9 : decode cX7_senders 9 = .ok (.iconst 0, 1) := by decide +kernel
theorem dX7_senders_10 : decode cX7_senders 10 = .ok (.iaload, 1) := by decide +kernel
theorem dX7_senders_11 : decode cX7_senders 11 = .ok (.if_icmp .ge 28, 3) := by decide +kernel
theorem dX7_senders_14 : decode cX7_senders 14 = .ok (.iload_n 1, 1) := by decide +kernel
theorem dX7_senders_15 : decode cX7_senders 15 = .ok (.aload_n 0, 1) := by decide +kernel
theorem dX7_senders_16 : decode cX7_senders 16 = .ok (.iload_n 2, 1) := by decide +kernel
theorem dX7_senders_17 : decode cX7_senders 17 = .ok (.iconst 3, 1) := by decide +kernel
theorem dX7_senders_18 : decode cX7_senders 18 = .ok (.invokevirtual 297, 3) := by decide +kernel
theorem dX7_senders_21 : decode cX7_senders 21 = .ok (.ifCond .eq 9, 3) := by decide +kernel
theorem dX7_senders_24 : decode cX7_senders 24 = .ok (.iconst 1, 1) := by decide +kernel
theorem dX7_senders_25 : decode cX7_senders 25 = .ok (.iload_n 2, 1) := by decide +kernel
theorem dX7_senders_26 : decode cX7_senders 26 = .ok (.ishl, 1) := by decide +kernel
theorem dX7_senders_27 : decode cX7_senders 27 = .ok (.goto 4, 3) := by decide +kernel
theorem dX7_senders_30 : decode cX7_senders 30 = .ok (.iconst 0, 1) := by decide +kernel
theorem dX7_senders_31 : decode cX7_senders 31 = .ok (.ior, 1) := by decide +kernel
theorem dX7_senders_32 : decode cX7_senders 32 = .ok (.istore_n 1, 1) := by decide +kernel
theorem dX7_senders_33 : decode cX7_senders 33 = .ok (.iinc 2 1, 3) := by decide +kernel
theorem dX7_senders_36 : decode cX7_senders 36 = .ok (.goto (-32), 3) := by decide +kernel
theorem dX7_senders_39 : decode cX7_senders 39 = .ok (.iload_n 1, 1) := by decide +kernel
theorem dX7_senders_40 : decode cX7_senders 40 = .ok (.ireturn, 1) := by decide +kernel
theorem dX7_hasEars_0 : decode cX7_hasEars 0 = .ok (.aload_n 0, 1) := by decide +kernel
theorem dX7_hasEars_1 : decode cX7_hasEars 1 = .ok (.iload_n 1, 1) := by decide +kernel
theorem dX7_hasEars_2 : decode cX7_hasEars 2 = .ok (.iconst 1, 1) := by decide +kernel
theorem dX7_hasEars_3 : decode cX7_hasEars 3 = .ok (.invokevirtual 297, 3) := by decide +kernel
theorem dX7_hasEars_6 : decode cX7_hasEars 6 = .ok (.ifCond .ne 12, 3) := by decide +kernel
theorem dX7_hasEars_9 : decode cX7_hasEars 9 = .ok (.aload_n 0, 1) := by decide +kernel
theorem dX7_hasEars_10 : decode cX7_hasEars 10 = .ok (.iload_n 1, 1) := by decide +kernel
theorem dX7_hasEars_11 : decode cX7_hasEars 11 = .ok (.iconst 2, 1) := by decide +kernel
theorem dX7_hasEars_12 : decode cX7_hasEars 12 = .ok (.invokevirtual 297, 3) := by decide +kernel
theorem dX7_hasEars_15 : decode cX7_hasEars 15 = .ok (.ifCond .eq 7, 3) := by decide +kernel
theorem dX7_hasEars_18 : decode cX7_hasEars 18 = .ok (.iconst 1, 1) := by decide +kernel
theorem dX7_hasEars_19 : decode cX7_hasEars 19 = .ok (.goto 4, 3) := by decide +kernel
theorem dX7_hasEars_22 : decode cX7_hasEars 22 = .ok (.iconst 0, 1) := by decide +kernel
theorem dX7_hasEars_23 : decode cX7_hasEars 23 = .ok (.ireturn, 1) := by decide +kernel
theorem dX7_deafness_0 : decode cX7_deafness 0 = .ok (.aload_n 0, 1) := by decide +kernel
theorem dX7_deafness_1 : decode cX7_deafness 1 = .ok (.iload_n 1, 1) := by decide +kernel
theorem dX7_deafness_2 : decode cX7_deafness 2 = .ok (.iload_n 2, 1) := by decide +kernel
theorem dX7_deafness_3 : decode cX7_deafness 3 = .ok (.invokevirtual 208, 3) := by decide +kernel
theorem dX7_deafness_6 : decode cX7_deafness 6 = .ok (.ifCond .ne 5, 3) := by decide +kernel
theorem dX7_deafness_9 : decode cX7_deafness 9 = .ok (.iconst 1, 1) := by decide +kernel
theorem dX7_deafness_10 : decode cX7_deafness 10 = .ok (.ireturn, 1) := by decide +kernel
theorem dX7_deafness_11 : decode cX7_deafness 11 = .ok (.aload_n 0, 1) := by decide +kernel
theorem dX7_deafness_12 : decode cX7_deafness 12 = .ok (.iload_n 1, 1) := by decide +kernel
theorem dX7_deafness_13 : decode cX7_deafness 13 = .ok (.iconst 0, 1) := by decide +kernel
theorem dX7_deafness_14 : decode cX7_deafness 14 = .ok (.invokevirtual 297, 3) := by decide +kernel
theorem dX7_deafness_17 : decode cX7_deafness 17 = .ok (.ifCond .ne 12, 3) := by decide +kernel
theorem dX7_deafness_20 : decode cX7_deafness 20 = .ok (.aload_n 0, 1) := by decide +kernel
theorem dX7_deafness_21 : decode cX7_deafness 21 = .ok (.iload_n 1, 1) := by decide +kernel
theorem dX7_deafness_22 : decode cX7_deafness 22 = .ok (.iconst 4, 1) := by decide +kernel
theorem dX7_deafness_23 : decode cX7_deafness 23 = .ok (.invokevirtual 297, 3) := by decide +kernel
theorem dX7_deafness_26 : decode cX7_deafness 26 = .ok (.ifCond .eq 5, 3) := by decide +kernel
theorem dX7_deafness_29 : decode cX7_deafness 29 = .ok (.iconst 2, 1) := by decide +kernel
theorem dX7_deafness_30 : decode cX7_deafness 30 = .ok (.ireturn, 1) := by decide +kernel
theorem dX7_deafness_31 : decode cX7_deafness 31 = .ok (.aload_n 0, 1) := by decide +kernel
theorem dX7_deafness_32 : decode cX7_deafness 32 = .ok (.iload_n 1, 1) := by decide +kernel
theorem dX7_deafness_33 : decode cX7_deafness 33 = .ok (.iconst 3, 1) := by decide +kernel
theorem dX7_deafness_34 : decode cX7_deafness 34 = .ok (.invokevirtual 297, 3) := by decide +kernel
theorem dX7_deafness_37 : decode cX7_deafness 37 = .ok (.ifCond .eq 5, 3) := by decide +kernel
theorem dX7_deafness_40 : decode cX7_deafness 40 = .ok (.iconst 3, 1) := by decide +kernel
theorem dX7_deafness_41 : decode cX7_deafness 41 = .ok (.ireturn, 1) := by decide +kernel
theorem dX7_deafness_42 : decode cX7_deafness 42 = .ok (.aload_n 0, 1) := by decide +kernel
theorem dX7_deafness_43 : decode cX7_deafness 43 = .ok (.getfield 20, 3) := by decide +kernel
theorem dX7_deafness_46 : decode cX7_deafness 46 = .ok (.bipush 13, 2) := by decide +kernel
theorem dX7_deafness_48 : decode cX7_deafness 48 = .ok (.iload_n 1, 1) := by decide +kernel
theorem dX7_deafness_49 : decode cX7_deafness 49 = .ok (.iadd, 1) := by decide +kernel
theorem dX7_deafness_50 : decode cX7_deafness 50 = .ok (.iaload, 1) := by decide +kernel
theorem dX7_deafness_51 : decode cX7_deafness 51 = .ok (.iload_n 3, 1) := by decide +kernel
theorem dX7_deafness_52 : decode cX7_deafness 52 = .ok (.iand, 1) := by decide +kernel
theorem dX7_deafness_53 : decode cX7_deafness 53 = .ok (.invokestatic 300, 3) := by decide +kernel
theorem dX7_deafness_56 : decode cX7_deafness 56 = .ok (.iconst 1, 1) := by decide +kernel
theorem dX7_deafness_57 : decode cX7_deafness 57 = .ok (.if_icmp .le 7, 3) := by decide +kernel
theorem dX7_deafness_60 : decode cX7_deafness 60 = .ok (.iconst 4, 1) := by decide +kernel
theorem dX7_deafness_61 : decode cX7_deafness 61 = .ok (.goto 4, 3) := by decide +kernel
theorem dX7_deafness_64 : decode cX7_deafness 64 = .ok (.iconst 0, 1) := by decide +kernel
theorem dX7_deafness_65 : decode cX7_deafness 65 = .ok (.ireturn, 1) := by decide +kernel
theorem dX7_hears_0 : decode cX7_hears 0 = .ok (.iconst 0, 1) := by decide +kernel
theorem dX7_hears_1 : decode cX7_hears 1 = .ok (.istore_n 3, 1) := by decide +kernel
theorem dX7_hears_2 : decode cX7_hears 2 = .ok (.iload_n 3, 1) := by decide +kernel
theorem dX7_hears_3 : decode cX7_hears 3 = .ok (.aload_n 0, 1) := by decide +kernel
theorem dX7_hears_4 : decode cX7_hears 4 = .ok (.getfield 20, 3) := by decide +kernel
theorem dX7_hears_7 : decode cX7_hears 7 = .ok (.iconst 0, 1) := by decide +kernel
theorem dX7_hears_8 : decode cX7_hears 8 = .ok (.iaload, 1) := by decide +kernel
theorem dX7_hears_9 : decode cX7_hears 9 = .ok (.if_icmp .ge 78, 3) := by decide +kernel
theorem dX7_hears_12 : decode cX7_hears 12 = .ok (.iload_n 3, 1) := by decide +kernel
theorem dX7_hears_13 : decode cX7_hears 13 = .ok (.iload_n 1, 1) := by decide +kernel
theorem dX7_hears_14 : decode cX7_hears 14 = .ok (.if_icmp .ne 7, 3) := by decide +kernel
theorem dX7_hears_17 : decode cX7_hears 17 = .ok (.iconst 0, 1) := by decide +kernel
theorem dX7_hears_18 : decode cX7_hears 18 = .ok (.goto 10, 3) := by decide +kernel
theorem dX7_hears_21 : decode cX7_hears 21 = .ok (.aload_n 0, 1) := by decide +kernel
theorem dX7_hears_22 : decode cX7_hears 22 = .ok (.iload_n 3, 1) := by decide +kernel
theorem dX7_hears_23 : decode cX7_hears 23 = .ok (.iload_n 1, 1) := by decide +kernel
theorem dX7_hears_24 : decode cX7_hears 24 = .ok (.iload_n 2, 1) := by decide +kernel
theorem dX7_hears_25 : decode cX7_hears 25 = .ok (.invokevirtual 303, 3) := by decide +kernel
theorem dX7_hears_28 : decode cX7_hears 28 = .ok (.istore 4, 2) := by decide +kernel
theorem dX7_hears_30 : decode cX7_hears 30 = .ok (.iload 4, 2) := by decide +kernel
theorem dX7_hears_32 : decode cX7_hears 32 = .ok (.ifCond .ne 6, 3) := by decide +kernel
theorem dX7_hears_35 : decode cX7_hears 35 = .ok (.goto 46, 3) := by decide +kernel
theorem dX7_hears_38 : decode cX7_hears 38 = .ok (.aload_n 0, 1) := by decide +kernel
theorem dX7_hears_39 : decode cX7_hears 39 = .ok (.iload_n 1, 1) := by decide +kernel
theorem dX7_hears_40 : decode cX7_hears 40 = .ok (.bipush 9, 2) := by decide +kernel
theorem dX7_hears_42 : decode cX7_hears 42 = .ok (.aload_n 0, 1) := by decide +kernel
theorem dX7_hears_43 : decode cX7_hears 43 = .ok (.iload_n 1, 1) := by decide +kernel
theorem dX7_hears_44 : decode cX7_hears 44 = .ok (.bipush 9, 2) := by decide +kernel
theorem dX7_hears_46 : decode cX7_hears 46 = .ok (.invokevirtual 251, 3) := by decide +kernel
theorem dX7_hears_49 : decode cX7_hears 49 = .ok (.iconst 1, 1) := by decide +kernel
theorem dX7_hears_50 : decode cX7_hears 50 = .ok (.iload_n 3, 1) := by decide +kernel
theorem dX7_hears_51 : decode cX7_hears 51 = .ok (.ishl, 1) := by decide +kernel
theorem dX7_hears_52 : decode cX7_hears 52 = .ok (.iconst (-1), 1) := by decide +kernel
theorem dX7_hears_53 : decode cX7_hears 53 = .ok (.ixor, 1) := by decide +kernel
theorem dX7_hears_54 : decode cX7_hears 54 = .ok (.iand, 1) := by decide +kernel
theorem dX7_hears_55 : decode cX7_hears 55 = .ok (.invokevirtual 148, 3) := by decide +kernel
theorem dX7_hears_58 : decode cX7_hears 58 = .ok (.aload_n 0, 1) := by decide +kernel
theorem dX7_hears_59 : decode cX7_hears 59 = .ok (.iload_n 1, 1) := by decide +kernel
theorem dX7_hears_60 : decode cX7_hears 60 = .ok (.bipush 27, 2) := by decide +kernel
theorem dX7_hears_62 : decode cX7_hears 62 = .ok (.iload_n 3, 1) := by decide +kernel
theorem dX7_hears_63 : decode cX7_hears 63 = .ok (.iadd, 1) := by decide +kernel
theorem dX7_hears_64 : decode cX7_hears 64 = .ok (.invokevirtual 251, 3) := by decide +kernel
theorem dX7_hears_67 : decode cX7_hears 67 = .ok (.ifCond .ne 14, 3) := by decide +kernel
theorem dX7_hears_70 : decode cX7_hears 70 = .ok (.aload_n 0, 1) := by decide +kernel
theorem dX7_hears_71 : decode cX7_hears 71 = .ok (.iload_n 1, 1) := by decide +kernel
theorem dX7_hears_72 : decode cX7_hears 72 = .ok (.bipush 27, 2) := by decide +kernel
theorem dX7_hears_74 : decode cX7_hears 74 = .ok (.iload_n 3, 1) := by decide +kernel
theorem dX7_hears_75 : decode cX7_hears 75 = .ok (.iadd, 1) := by decide +kernel
theorem dX7_hears_76 : decode cX7_hears 76 = .ok (.iload 4, 2) := by decide +kernel
theorem dX7_hears_78 : decode cX7_hears 78 = .ok (.invokevirtual 148, 3) := by decide +kernel
theorem dX7_hears_81 : decode cX7_hears 81 = .ok (.iinc 3 1, 3) := by decide +kernel
theorem dX7_hears_84 : decode cX7_hears 84 = .ok (.goto (-82), 3) := by decide +kernel
theorem dX7_hears_87 : decode cX7_hears 87 = .ok (.return_, 1) := by decide +kernel
theorem dX7_collides_0 : decode cX7_collides 0 = .ok (.iconst 0, 1) := by decide +kernel
theorem dX7_collides_1 : decode cX7_collides 1 = .ok (.istore_n 2, 1) := by decide +kernel
theorem dX7_collides_2 : decode cX7_collides 2 = .ok (.iload_n 2, 1) := by decide +kernel
theorem dX7_collides_3 : decode cX7_collides 3 = .ok (.aload_n 0, 1) := by decide +kernel
theorem dX7_collides_4 : decode cX7_collides 4 = .ok (.getfield 20, 3) := by decide +kernel
theorem dX7_collides_7 : decode cX7_collides 7 = .ok (.iconst 0, 1) := by decide +kernel
theorem dX7_collides_8 : decode cX7_collides 8 = .ok (.iaload, 1) := by decide +kernel
theorem dX7_collides_9 : decode cX7_collides 9 = .ok (.if_icmp .ge 53, 3) := by decide +kernel
theorem dX7_collides_12 : decode cX7_collides 12 = .ok (.aload_n 0, 1) := by decide +kernel
theorem dX7_collides_13 : decode cX7_collides 13 = .ok (.getfield 20, 3) := by decide +kernel
theorem dX7_collides_16 : decode cX7_collides 16 = .ok (.bipush 6, 2) := by decide +kernel
theorem dX7_collides_18 : decode cX7_collides 18 = .ok (.dup2, 1) := by decide +kernel
theorem dX7_collides_19 : decode cX7_collides 19 = .ok (.iaload, 1) := by decide +kernel
theorem dX7_collides_20 : decode cX7_collides 20 = .ok (.aload_n 0, 1) := by decide +kernel
theorem dX7_collides_21 : decode cX7_collides 21 = .ok (.iload_n 2, 1) := by decide +kernel
theorem dX7_collides_22 : decode cX7_collides 22 = .ok (.invokevirtual 307, 3) := by decide +kernel
theorem dX7_collides_25 : decode cX7_collides 25 = .ok (.ifCond .eq 25, 3) := by decide +kernel
theorem dX7_collides_28 : decode cX7_collides 28 = .ok (.aload_n 0, 1) := by decide +kernel
theorem dX7_collides_29 : decode cX7_collides 29 = .ok (.getfield 20, 3) := by decide +kernel
theorem dX7_collides_32 : decode cX7_collides 32 = .ok (.bipush 13, 2) := by decide +kernel
theorem dX7_collides_34 : decode cX7_collides 34 = .ok (.iload_n 2, 1) := by decide +kernel
theorem dX7_collides_35 : decode cX7_collides 35 = .ok (.iadd, 1) := by decide +kernel
theorem dX7_collides_36 : decode cX7_collides 36 = .ok (.iaload, 1) := by decide +kernel
theorem dX7_collides_37 : decode cX7_collides 37 = .ok (.iload_n 1, 1) := by decide +kernel
theorem dX7_collides_38 : decode cX7_collides 38 = .ok (.iand, 1) := by decide +kernel
theorem dX7_collides_39 : decode cX7_collides 39 = .ok (.invokestatic 300, 3) := by decide +kernel
theorem dX7_collides_42 : decode cX7_collides 42 = .ok (.iconst 1, 1) := by decide +kernel
theorem dX7_collides_43 : decode cX7_collides 43 = .ok (.if_icmp .le 7, 3) := by decide +kernel
theorem dX7_collides_46 : decode cX7_collides 46 = .ok (.iconst 1, 1) := by decide +kernel
theorem dX7_collides_47 : decode cX7_collides 47 = .ok (.goto 4, 3) := by decide +kernel
theorem dX7_collides_50 : decode cX7_collides 50 = .ok (.iconst 0, 1) := by decide +kernel
theorem dX7_collides_51 : decode cX7_collides 51 = .ok (.invokestatic 69, 3) := by decide +kernel
theorem dX7_collides_54 : decode cX7_collides 54 = .ok (.iadd, 1) := by decide +kernel
theorem dX7_collides_55 : decode cX7_collides 55 = .ok (.iastore, 1) := by decide +kernel
theorem dX7_collides_56 : decode cX7_collides 56 = .ok (.iinc 2 1, 3) := by decide +kernel
theorem dX7_collides_59 : decode cX7_collides 59 = .ok (.goto (-57), 3) := by decide +kernel
theorem dX7_collides_62 : decode cX7_collides 62 = .ok (.return_, 1) := by decide +kernel
theorem dX7_earsOf_0 : decode cX7_earsOf 0 = .ok (.aload_n 0, 1) := by decide +kernel
theorem dX7_earsOf_1 : decode cX7_earsOf 1 = .ok (.iload_n 1, 1) := by decide +kernel
theorem dX7_earsOf_2 : decode cX7_earsOf 2 = .ok (.bipush 9, 2) := by decide +kernel
theorem dX7_earsOf_4 : decode cX7_earsOf 4 = .ok (.invokevirtual 251, 3) := by decide +kernel
theorem dX7_earsOf_7 : decode cX7_earsOf 7 = .ok (.iconst 1, 1) := by decide +kernel
theorem dX7_earsOf_8 : decode cX7_earsOf 8 = .ok (.aload_n 0, 1) := by decide +kernel
theorem dX7_earsOf_9 : decode cX7_earsOf 9 = .ok (.getfield 20, 3) := by decide +kernel
theorem dX7_earsOf_12 : decode cX7_earsOf 12 = .ok (.iconst 0, 1) := by decide +kernel
theorem dX7_earsOf_13 : decode cX7_earsOf 13 = .ok (.iaload, 1) := by decide +kernel
theorem dX7_earsOf_14 : decode cX7_earsOf 14 = .ok (.ishl, 1) := by decide +kernel
theorem dX7_earsOf_15 : decode cX7_earsOf 15 = .ok (.iconst 1, 1) := by decide +kernel
theorem dX7_earsOf_16 : decode cX7_earsOf 16 = .ok (.isub, 1) := by decide +kernel
theorem dX7_earsOf_17 : decode cX7_earsOf 17 = .ok (.iand, 1) := by decide +kernel
theorem dX7_earsOf_18 : decode cX7_earsOf 18 = .ok (.ireturn, 1) := by decide +kernel
theorem dX7_goesWell_0 : decode cX7_goesWell 0 = .ok (.iconst 0, 1) := by decide +kernel
theorem dX7_goesWell_1 : decode cX7_goesWell 1 = .ok (.istore_n 2, 1) := by decide +kernel
theorem dX7_goesWell_2 : decode cX7_goesWell 2 = .ok (.iload_n 2, 1) := by decide +kernel
theorem dX7_goesWell_3 : decode cX7_goesWell 3 = .ok (.aload_n 0, 1) := by decide +kernel
theorem dX7_goesWell_4 : decode cX7_goesWell 4 = .ok (.getfield 20, 3) := by decide +kernel
theorem dX7_goesWell_7 : decode cX7_goesWell 7 = .ok (.iconst 0, 1) := by decide +kernel
theorem dX7_goesWell_8 : decode cX7_goesWell 8 = .ok (.iaload, 1) := by decide +kernel
theorem dX7_goesWell_9 : decode cX7_goesWell 9 = .ok (.if_icmp .ge 36, 3) := by decide +kernel
theorem dX7_goesWell_12 : decode cX7_goesWell 12 = .ok (.aload_n 0, 1) := by decide +kernel
theorem dX7_goesWell_13 : decode cX7_goesWell 13 = .ok (.iload_n 1, 1) := by decide +kernel
theorem dX7_goesWell_14 : decode cX7_goesWell 14 = .ok (.invokevirtual 310, 3) := by decide +kernel
theorem dX7_goesWell_17 : decode cX7_goesWell 17 = .ok (.iload_n 2, 1) := by decide +kernel
theorem dX7_goesWell_18 : decode cX7_goesWell 18 = .ok (.invokestatic 180, 3) := by decide +kernel
theorem dX7_goesWell_21 : decode cX7_goesWell 21 = .ok (.ifCond .eq 18, 3) := by decide +kernel
theorem dX7_goesWell_24 : decode cX7_goesWell 24 = .ok (.aload_n 0, 1) := by decide +kernel
theorem dX7_goesWell_25 : decode cX7_goesWell 25 = .ok (.iload_n 2, 1) := by decide +kernel
theorem dX7_goesWell_26 : decode cX7_goesWell 26 = .ok (.bipush 19, 2) := by decide +kernel
theorem dX7_goesWell_28 : decode cX7_goesWell 28 = .ok (.iload_n 1, 1) := by decide +kernel
theorem dX7_goesWell_29 : decode cX7_goesWell 29 = .ok (.iadd, 1) := by decide +kernel
theorem dX7_goesWell_30 : decode cX7_goesWell 30 = .ok (.aload_n 0, 1) := by decide +kernel
theorem dX7_goesWell_31 : decode cX7_goesWell 31 = .ok (.getfield 20, 3) := by decide +kernel
theorem dX7_goesWell_34 : decode cX7_goesWell 34 = .ok (.iconst 1, 1) := by decide +kernel
theorem dX7_goesWell_35 : decode cX7_goesWell 35 = .ok (.iaload, 1) := by decide +kernel
theorem dX7_goesWell_36 : decode cX7_goesWell 36 = .ok (.invokevirtual 148, 3) := by decide +kernel
theorem dX7_goesWell_39 : decode cX7_goesWell 39 = .ok (.iinc 2 1, 3) := by decide +kernel
theorem dX7_goesWell_42 : decode cX7_goesWell 42 = .ok (.goto (-40), 3) := by decide +kernel
theorem dX7_goesWell_45 : decode cX7_goesWell 45 = .ok (.aload_n 0, 1) := by decide +kernel
theorem dX7_goesWell_46 : decode cX7_goesWell 46 = .ok (.iload_n 1, 1) := by decide +kernel
theorem dX7_goesWell_47 : decode cX7_goesWell 47 = .ok (.bipush 7, 2) := by decide +kernel
theorem dX7_goesWell_49 : decode cX7_goesWell 49 = .ok (.iconst 0, 1) := by decide +kernel
theorem dX7_goesWell_50 : decode cX7_goesWell 50 = .ok (.invokevirtual 148, 3) := by decide +kernel
theorem dX7_goesWell_53 : decode cX7_goesWell 53 = .ok (.aload_n 0, 1) := by decide +kernel
theorem dX7_goesWell_54 : decode cX7_goesWell 54 = .ok (.iload_n 1, 1) := by decide +kernel
theorem dX7_goesWell_55 : decode cX7_goesWell 55 = .ok (.bipush 11, 2) := by decide +kernel
theorem dX7_goesWell_57 : decode cX7_goesWell 57 = .ok (.iconst 1, 1) := by decide +kernel
theorem dX7_goesWell_58 : decode cX7_goesWell 58 = .ok (.invokevirtual 273, 3) := by decide +kernel
theorem dX7_goesWell_61 : decode cX7_goesWell 61 = .ok (.aload_n 0, 1) := by decide +kernel
theorem dX7_goesWell_62 : decode cX7_goesWell 62 = .ok (.getfield 20, 3) := by decide +kernel
theorem dX7_goesWell_65 : decode cX7_goesWell 65 = .ok (.iconst 4, 1) := by decide +kernel
theorem dX7_goesWell_66 : decode cX7_goesWell 66 = .ok (.dup2, 1) := by decide +kernel
theorem dX7_goesWell_67 : decode cX7_goesWell 67 = .ok (.iaload, 1) := by decide +kernel
theorem dX7_goesWell_68 : decode cX7_goesWell 68 = .ok (.iconst 1, 1) := by decide +kernel
theorem dX7_goesWell_69 : decode cX7_goesWell 69 = .ok (.iadd, 1) := by decide +kernel
theorem dX7_goesWell_70 : decode cX7_goesWell 70 = .ok (.iastore, 1) := by decide +kernel
theorem dX7_goesWell_71 : decode cX7_goesWell 71 = .ok (.aload_n 0, 1) := by decide +kernel
theorem dX7_goesWell_72 : decode cX7_goesWell 72 = .ok (.iload_n 1, 1) := by decide +kernel
theorem dX7_goesWell_73 : decode cX7_goesWell 73 = .ok (.iconst 0, 1) := by decide +kernel
theorem dX7_goesWell_74 : decode cX7_goesWell 74 = .ok (.iconst 0, 1) := by decide +kernel
theorem dX7_goesWell_75 : decode cX7_goesWell 75 = .ok (.invokevirtual 264, 3) := by decide +kernel
theorem dX7_goesWell_78 : decode cX7_goesWell 78 = .ok (.return_, 1) := by decide +kernel
theorem dX7_givesUp_0 : decode cX7_givesUp 0 = .ok (.aload_n 0, 1) := by decide +kernel
theorem dX7_givesUp_1 : decode cX7_givesUp 1 = .ok (.iload_n 1, 1) := by decide +kernel
theorem dX7_givesUp_2 : decode cX7_givesUp 2 = .ok (.bipush 7, 2) := by decide +kernel
theorem dX7_givesUp_4 : decode cX7_givesUp 4 = .ok (.iconst 0, 1) := by decide +kernel
theorem dX7_givesUp_5 : decode cX7_givesUp 5 = .ok (.invokevirtual 148, 3) := by decide +kernel
theorem dX7_givesUp_8 : decode cX7_givesUp 8 = .ok (.aload_n 0, 1) := by decide +kernel
theorem dX7_givesUp_9 : decode cX7_givesUp 9 = .ok (.iload_n 1, 1) := by decide +kernel
theorem dX7_givesUp_10 : decode cX7_givesUp 10 = .ok (.bipush 12, 2) := by decide +kernel
theorem dX7_givesUp_12 : decode cX7_givesUp 12 = .ok (.iconst 1, 1) := by decide +kernel
theorem dX7_givesUp_13 : decode cX7_givesUp 13 = .ok (.invokevirtual 273, 3) := by decide +kernel
theorem dX7_givesUp_16 : decode cX7_givesUp 16 = .ok (.aload_n 0, 1) := by decide +kernel
theorem dX7_givesUp_17 : decode cX7_givesUp 17 = .ok (.getfield 20, 3) := by decide +kernel
theorem dX7_givesUp_20 : decode cX7_givesUp 20 = .ok (.iconst 5, 1) := by decide +kernel
theorem dX7_givesUp_21 : decode cX7_givesUp 21 = .ok (.dup2, 1) := by decide +kernel
theorem dX7_givesUp_22 : decode cX7_givesUp 22 = .ok (.iaload, 1) := by decide +kernel
theorem dX7_givesUp_23 : decode cX7_givesUp 23 = .ok (.iconst 1, 1) := by decide +kernel
theorem dX7_givesUp_24 : decode cX7_givesUp 24 = .ok (.iadd, 1) := by decide +kernel
theorem dX7_givesUp_25 : decode cX7_givesUp 25 = .ok (.iastore, 1) := by decide +kernel
theorem dX7_givesUp_26 : decode cX7_givesUp 26 = .ok (.aload_n 0, 1) := by decide +kernel
theorem dX7_givesUp_27 : decode cX7_givesUp 27 = .ok (.iload_n 1, 1) := by decide +kernel
theorem dX7_givesUp_28 : decode cX7_givesUp 28 = .ok (.iconst 0, 1) := by decide +kernel
theorem dX7_givesUp_29 : decode cX7_givesUp 29 = .ok (.iconst 0, 1) := by decide +kernel
theorem dX7_givesUp_30 : decode cX7_givesUp 30 = .ok (.invokevirtual 264, 3) := by decide +kernel
theorem dX7_givesUp_33 : decode cX7_givesUp 33 = .ok (.return_, 1) := by decide +kernel
theorem dX7_ends_0 : decode cX7_ends 0 = .ok (.iconst 0, 1) := by decide +kernel
theorem dX7_ends_1 : decode cX7_ends 1 = .ok (.istore_n 2, 1) := by decide +kernel
theorem dX7_ends_2 : decode cX7_ends 2 = .ok (.iload_n 2, 1) := by decide +kernel
theorem dX7_ends_3 : decode cX7_ends 3 = .ok (.aload_n 0, 1) := by decide +kernel
theorem dX7_ends_4 : decode cX7_ends 4 = .ok (.getfield 20, 3) := by decide +kernel
theorem dX7_ends_7 : decode cX7_ends 7 = .ok (.iconst 0, 1) := by decide +kernel
theorem dX7_ends_8 : decode cX7_ends 8 = .ok (.iaload, 1) := by decide +kernel
theorem dX7_ends_9 : decode cX7_ends 9 = .ok (.if_icmp .ge 36, 3) := by decide +kernel
theorem dX7_ends_12 : decode cX7_ends 12 = .ok (.aload_n 0, 1) := by decide +kernel
theorem dX7_ends_13 : decode cX7_ends 13 = .ok (.iload_n 1, 1) := by decide +kernel
theorem dX7_ends_14 : decode cX7_ends 14 = .ok (.bipush 35, 2) := by decide +kernel
theorem dX7_ends_16 : decode cX7_ends 16 = .ok (.iload_n 2, 1) := by decide +kernel
theorem dX7_ends_17 : decode cX7_ends 17 = .ok (.iadd, 1) := by decide +kernel
theorem dX7_ends_18 : decode cX7_ends 18 = .ok (.iload_n 2, 1) := by decide +kernel
theorem dX7_ends_19 : decode cX7_ends 19 = .ok (.iload_n 1, 1) := by decide +kernel
theorem dX7_ends_20 : decode cX7_ends 20 = .ok (.if_icmp .ne 7, 3) := by decide +kernel
theorem dX7_ends_23 : decode cX7_ends 23 = .ok (.iconst 5, 1) := by decide +kernel
theorem dX7_ends_24 : decode cX7_ends 24 = .ok (.goto 12, 3) := by decide +kernel
theorem dX7_ends_27 : decode cX7_ends 27 = .ok (.aload_n 0, 1) := by decide +kernel
theorem dX7_ends_28 : decode cX7_ends 28 = .ok (.iload_n 1, 1) := by decide +kernel
theorem dX7_ends_29 : decode cX7_ends 29 = .ok (.bipush 27, 2) := by decide +kernel
theorem dX7_ends_31 : decode cX7_ends 31 = .ok (.iload_n 2, 1) := by decide +kernel
theorem dX7_ends_32 : decode cX7_ends 32 = .ok (.iadd, 1) := by decide +kernel
theorem dX7_ends_33 : decode cX7_ends 33 = .ok (.invokevirtual 251, 3) := by decide +kernel
theorem dX7_ends_36 : decode cX7_ends 36 = .ok (.invokevirtual 148, 3) := by decide +kernel
theorem dX7_ends_39 : decode cX7_ends 39 = .ok (.iinc 2 1, 3) := by decide +kernel
theorem dX7_ends_42 : decode cX7_ends 42 = .ok (.goto (-40), 3) := by decide +kernel
theorem dX7_ends_45 : decode cX7_ends 45 = .ok (.aload_n 0, 1) := by decide +kernel
theorem dX7_ends_46 : decode cX7_ends 46 = .ok (.iload_n 1, 1) := by decide +kernel
theorem dX7_ends_47 : decode cX7_ends 47 = .ok (.invokevirtual 310, 3) := by decide +kernel
theorem dX7_ends_50 : decode cX7_ends 50 = .ok (.ifCond .eq 9, 3) := by decide +kernel
theorem dX7_ends_53 : decode cX7_ends 53 = .ok (.aload_n 0, 1) := by decide +kernel
theorem dX7_ends_54 : decode cX7_ends 54 = .ok (.iload_n 1, 1) := by decide +kernel
theorem dX7_ends_55 : decode cX7_ends 55 = .ok (.invokevirtual 313, 3) := by decide +kernel
theorem dX7_ends_58 : decode cX7_ends 58 = .ok (.return_, 1) := by decide +kernel
theorem dX7_ends_59 : decode cX7_ends 59 = .ok (.aload_n 0, 1) := by decide +kernel
theorem dX7_ends_60 : decode cX7_ends 60 = .ok (.iload_n 1, 1) := by decide +kernel
theorem dX7_ends_61 : decode cX7_ends 61 = .ok (.bipush 7, 2) := by decide +kernel
theorem dX7_ends_63 : decode cX7_ends 63 = .ok (.iconst 1, 1) := by decide +kernel
theorem dX7_ends_64 : decode cX7_ends 64 = .ok (.invokevirtual 273, 3) := by decide +kernel
theorem dX7_ends_67 : decode cX7_ends 67 = .ok (.aload_n 0, 1) := by decide +kernel
theorem dX7_ends_68 : decode cX7_ends 68 = .ok (.iload_n 1, 1) := by decide +kernel
theorem dX7_ends_69 : decode cX7_ends 69 = .ok (.bipush 7, 2) := by decide +kernel
theorem dX7_ends_71 : decode cX7_ends 71 = .ok (.invokevirtual 251, 3) := by decide +kernel
theorem dX7_ends_74 : decode cX7_ends 74 = .ok (.aload_n 0, 1) := by decide +kernel
theorem dX7_ends_75 : decode cX7_ends 75 = .ok (.getfield 20, 3) := by decide +kernel
theorem dX7_ends_78 : decode cX7_ends 78 = .ok (.iconst 2, 1) := by decide +kernel
theorem dX7_ends_79 : decode cX7_ends 79 = .ok (.iaload, 1) := by decide +kernel
theorem dX7_ends_80 : decode cX7_ends 80 = .ok (.if_icmp .lt 11, 3) := by decide +kernel
theorem dX7_ends_83 : decode cX7_ends 83 = .ok (.aload_n 0, 1) := by decide +kernel
theorem dX7_ends_84 : decode cX7_ends 84 = .ok (.iload_n 1, 1) := by decide +kernel
theorem dX7_ends_85 : decode cX7_ends 85 = .ok (.invokevirtual 316, 3) := by decide +kernel
theorem dX7_ends_88 : decode cX7_ends 88 = .ok (.goto 8, 3) := by decide +kernel
theorem dX7_ends_91 : decode cX7_ends 91 = .ok (.aload_n 0, 1) := by decide +kernel
theorem dX7_ends_92 : decode cX7_ends 92 = .ok (.iload_n 1, 1) := by decide +kernel
theorem dX7_ends_93 : decode cX7_ends 93 = .ok (.invokevirtual 291, 3) := by decide +kernel
theorem dX7_ends_96 : decode cX7_ends 96 = .ok (.return_, 1) := by decide +kernel
theorem dX7_slot_0 : decode cX7_slot 0 = .ok (.aload_n 0, 1) := by decide +kernel
theorem dX7_slot_1 : decode cX7_slot 1 = .ok (.getfield 20, 3) := by decide +kernel
theorem dX7_slot_4 : decode cX7_slot 4 = .ok (.iconst 1, 1) := by decide +kernel
theorem dX7_slot_5 : decode cX7_slot 5 = .ok (.dup2, 1) := by decide +kernel
theorem dX7_slot_6 : decode cX7_slot 6 = .ok (.iaload, 1) := by decide +kernel
theorem dX7_slot_7 : decode cX7_slot 7 = .ok (.iconst 1, 1) := by decide +kernel
theorem dX7_slot_8 : decode cX7_slot 8 = .ok (.iadd, 1) := by decide +kernel
theorem dX7_slot_9 : decode cX7_slot 9 = .ok (.iastore, 1) := by decide +kernel
theorem dX7_slot_10 : decode cX7_slot 10 = .ok (.iconst 0, 1) := by decide +kernel
theorem dX7_slot_11 : decode cX7_slot 11 = .ok (.istore_n 1, 1) := by decide +kernel
theorem dX7_slot_12 : decode cX7_slot 12 = .ok (.iload_n 1, 1) := by decide +kernel
theorem dX7_slot_13 : decode cX7_slot 13 = .ok (.aload_n 0, 1) := by decide +kernel
theorem dX7_slot_14 : decode cX7_slot 14 = .ok (.getfield 20, 3) := by decide +kernel
theorem dX7_slot_17 : decode cX7_slot 17 = .ok (.iconst 0, 1) := by decide +kernel
theorem dX7_slot_18 : decode cX7_slot 18 = .ok (.iaload, 1) := by decide +kernel
theorem dX7_slot_19 : decode cX7_slot 19 = .ok (.if_icmp .ge 23, 3) := by decide +kernel
theorem dX7_slot_22 : decode cX7_slot 22 = .ok (.aload_n 0, 1) := by decide +kernel
theorem dX7_slot_23 : decode cX7_slot 23 = .ok (.iload_n 1, 1) := by decide +kernel
theorem dX7_slot_24 : decode cX7_slot 24 = .ok (.iconst 4, 1) := by decide +kernel
theorem dX7_slot_25 : decode cX7_slot 25 = .ok (.invokevirtual 297, 3) := by decide +kernel
theorem dX7_slot_28 : decode cX7_slot 28 = .ok (.ifCond .ne 8, 3) := by decide +kernel
theorem dX7_slot_31 : decode cX7_slot 31 = .ok (.aload_n 0, 1) := by decide +kernel
theorem dX7_slot_32 : decode cX7_slot 32 = .ok (.iload_n 1, 1) := by decide +kernel
theorem dX7_slot_33 : decode cX7_slot 33 = .ok (.invokevirtual 319, 3) := by decide +kernel
theorem dX7_slot_36 : decode cX7_slot 36 = .ok (.iinc 1 1, 3) := by decide +kernel
theorem dX7_slot_39 : decode cX7_slot 39 = .ok (.goto (-27), 3) := by decide +kernel
theorem dX7_slot_42 : decode cX7_slot 42 = .ok (.iconst 0, 1) := by decide +kernel
theorem dX7_slot_43 : decode cX7_slot 43 = .ok (.istore_n 1, 1) := by decide +kernel
theorem dX7_slot_44 : decode cX7_slot 44 = .ok (.iload_n 1, 1) := by decide +kernel
theorem dX7_slot_45 : decode cX7_slot 45 = .ok (.aload_n 0, 1) := by decide +kernel
theorem dX7_slot_46 : decode cX7_slot 46 = .ok (.getfield 20, 3) := by decide +kernel
theorem dX7_slot_49 : decode cX7_slot 49 = .ok (.iconst 0, 1) := by decide +kernel
theorem dX7_slot_50 : decode cX7_slot 50 = .ok (.iaload, 1) := by decide +kernel
theorem dX7_slot_51 : decode cX7_slot 51 = .ok (.if_icmp .ge 23, 3) := by decide +kernel
theorem dX7_slot_54 : decode cX7_slot 54 = .ok (.aload_n 0, 1) := by decide +kernel
theorem dX7_slot_55 : decode cX7_slot 55 = .ok (.iload_n 1, 1) := by decide +kernel
theorem dX7_slot_56 : decode cX7_slot 56 = .ok (.iconst 4, 1) := by decide +kernel
theorem dX7_slot_57 : decode cX7_slot 57 = .ok (.invokevirtual 297, 3) := by decide +kernel
theorem dX7_slot_60 : decode cX7_slot 60 = .ok (.ifCond .ne 8, 3) := by decide +kernel
theorem dX7_slot_63 : decode cX7_slot 63 = .ok (.aload_n 0, 1) := by decide +kernel
theorem dX7_slot_64 : decode cX7_slot 64 = .ok (.iload_n 1, 1) := by decide +kernel
theorem dX7_slot_65 : decode cX7_slot 65 = .ok (.invokevirtual 322, 3) := by decide +kernel
theorem dX7_slot_68 : decode cX7_slot 68 = .ok (.iinc 1 1, 3) := by decide +kernel
theorem dX7_slot_71 : decode cX7_slot 71 = .ok (.goto (-27), 3) := by decide +kernel
theorem dX7_slot_74 : decode cX7_slot 74 = .ok (.aload_n 0, 1) := by decide +kernel
theorem dX7_slot_75 : decode cX7_slot 75 = .ok (.invokevirtual 325, 3) := by decide +kernel
theorem dX7_slot_78 : decode cX7_slot 78 = .ok (.istore_n 1, 1) := by decide +kernel
theorem dX7_slot_79 : decode cX7_slot 79 = .ok (.aload_n 0, 1) := by decide +kernel
theorem dX7_slot_80 : decode cX7_slot 80 = .ok (.iload_n 1, 1) := by decide +kernel
theorem dX7_slot_81 : decode cX7_slot 81 = .ok (.invokevirtual 328, 3) := by decide +kernel
theorem dX7_slot_84 : decode cX7_slot 84 = .ok (.iconst 0, 1) := by decide +kernel
theorem dX7_slot_85 : decode cX7_slot 85 = .ok (.istore_n 2, 1) := by decide +kernel
theorem dX7_slot_86 : decode cX7_slot 86 = .ok (.iload_n 2, 1) := by decide +kernel
theorem dX7_slot_87 : decode cX7_slot 87 = .ok (.aload_n 0, 1) := by decide +kernel
theorem dX7_slot_88 : decode cX7_slot 88 = .ok (.getfield 20, 3) := by decide +kernel
theorem dX7_slot_91 : decode cX7_slot 91 = .ok (.iconst 0, 1) := by decide +kernel
theorem dX7_slot_92 : decode cX7_slot 92 = .ok (.iaload, 1) := by decide +kernel
theorem dX7_slot_93 : decode cX7_slot 93 = .ok (.if_icmp .ge 23, 3) := by decide +kernel
theorem dX7_slot_96 : decode cX7_slot 96 = .ok (.iload_n 1, 1) := by decide +kernel
theorem dX7_slot_97 : decode cX7_slot 97 = .ok (.iload_n 2, 1) := by decide +kernel
theorem dX7_slot_98 : decode cX7_slot 98 = .ok (.invokestatic 180, 3) := by decide +kernel
theorem dX7_slot_101 : decode cX7_slot 101 = .ok (.ifCond .eq 9, 3) := by decide +kernel
theorem dX7_slot_104 : decode cX7_slot 104 = .ok (.aload_n 0, 1) := by decide +kernel
theorem dX7_slot_105 : decode cX7_slot 105 = .ok (.iload_n 2, 1) := by decide +kernel
theorem dX7_slot_106 : decode cX7_slot 106 = .ok (.iload_n 1, 1) := by decide +kernel
theorem dX7_slot_107 : decode cX7_slot 107 = .ok (.invokevirtual 331, 3) := by decide +kernel
theorem dX7_slot_110 : decode cX7_slot 110 = .ok (.iinc 2 1, 3) := by decide +kernel
theorem dX7_slot_113 : decode cX7_slot 113 = .ok (.goto (-27), 3) := by decide +kernel
theorem dX7_slot_116 : decode cX7_slot 116 = .ok (.aload_n 0, 1) := by decide +kernel
theorem dX7_slot_117 : decode cX7_slot 117 = .ok (.getfield 20, 3) := by decide +kernel
theorem dX7_slot_120 : decode cX7_slot 120 = .ok (.bipush 12, 2) := by decide +kernel
theorem dX7_slot_122 : decode cX7_slot 122 = .ok (.iload_n 1, 1) := by decide +kernel
theorem dX7_slot_123 : decode cX7_slot 123 = .ok (.iastore, 1) := by decide +kernel
theorem dX7_slot_124 : decode cX7_slot 124 = .ok (.iconst 0, 1) := by decide +kernel
theorem dX7_slot_125 : decode cX7_slot 125 = .ok (.istore_n 2, 1) := by decide +kernel
theorem dX7_slot_126 : decode cX7_slot 126 = .ok (.iload_n 2, 1) := by decide +kernel
theorem dX7_slot_127 : decode cX7_slot 127 = .ok (.aload_n 0, 1) := by decide +kernel
theorem dX7_slot_128 : decode cX7_slot 128 = .ok (.getfield 20, 3) := by decide +kernel
theorem dX7_slot_131 : decode cX7_slot 131 = .ok (.iconst 0, 1) := by decide +kernel
theorem dX7_slot_132 : decode cX7_slot 132 = .ok (.iaload, 1) := by decide +kernel
theorem dX7_slot_133 : decode cX7_slot 133 = .ok (.if_icmp .ge 30, 3) := by decide +kernel
theorem dX7_slot_136 : decode cX7_slot 136 = .ok (.iload_n 1, 1) := by decide +kernel
theorem dX7_slot_137 : decode cX7_slot 137 = .ok (.iload_n 2, 1) := by decide +kernel
theorem dX7_slot_138 : decode cX7_slot 138 = .ok (.invokestatic 180, 3) := by decide +kernel
theorem dX7_slot_141 : decode cX7_slot 141 = .ok (.ifCond .eq 16, 3) := by decide +kernel
theorem dX7_slot_144 : decode cX7_slot 144 = .ok (.aload_n 0, 1) := by decide +kernel
theorem dX7_slot_145 : decode cX7_slot 145 = .ok (.iload_n 2, 1) := by decide +kernel
theorem dX7_slot_146 : decode cX7_slot 146 = .ok (.invokevirtual 288, 3) := by decide +kernel
theorem dX7_slot_149 : decode cX7_slot 149 = .ok (.ifCond .eq 8, 3) := by decide +kernel
theorem dX7_slot_152 : decode cX7_slot 152 = .ok (.aload_n 0, 1) := by decide +kernel
theorem dX7_slot_153 : decode cX7_slot 153 = .ok (.iload_n 2, 1) := by decide +kernel
theorem dX7_slot_154 : decode cX7_slot 154 = .ok (.invokevirtual 335, 3) := by decide +kernel
theorem dX7_slot_157 : decode cX7_slot 157 = .ok (.iinc 2 1, 3) := by decide +kernel
theorem dX7_slot_160 : decode cX7_slot 160 = .ok (.goto (-34), 3) := by decide +kernel
theorem dX7_slot_163 : decode cX7_slot 163 = .ok (.return_, 1) := by decide +kernel
theorem dX7_runs_0 : decode cX7_runs 0 = .ok (.aload_n 0, 1) := by decide +kernel
theorem dX7_runs_1 : decode cX7_runs 1 = .ok (.getfield 20, 3) := by decide +kernel
theorem dX7_runs_4 : decode cX7_runs 4 = .ok (.iconst 4, 1) := by decide +kernel
theorem dX7_runs_5 : decode cX7_runs 5 = .ok (.iaload, 1) := by decide +kernel
theorem dX7_runs_6 : decode cX7_runs 6 = .ok (.istore_n 2, 1) := by decide +kernel
theorem dX7_runs_7 : decode cX7_runs 7 = .ok (.iconst 0, 1) := by decide +kernel
theorem dX7_runs_8 : decode cX7_runs 8 = .ok (.istore_n 3, 1) := by decide +kernel
theorem dX7_runs_9 : decode cX7_runs 9 = .ok (.iload_n 3, 1) := by decide +kernel
theorem dX7_runs_10 : decode cX7_runs 10 = .ok (.iload_n 1, 1) := by decide +kernel
theorem dX7_runs_11 : decode cX7_runs 11 = .ok (.if_icmp .ge 13, 3) := by decide +kernel
theorem dX7_runs_14 : decode cX7_runs 14 = .ok (.aload_n 0, 1) := by decide +kernel
theorem dX7_runs_15 : decode cX7_runs 15 = .ok (.invokevirtual 338, 3) := by decide +kernel
theorem dX7_runs_18 : decode cX7_runs 18 = .ok (.iinc 3 1, 3) := by decide +kernel
theorem dX7_runs_21 : decode cX7_runs 21 = .ok (.goto (-12), 3) := by decide +kernel
theorem dX7_runs_24 : decode cX7_runs 24 = .ok (.aload_n 0, 1) := by decide +kernel
theorem dX7_runs_25 : decode cX7_runs 25 = .ok (.getfield 20, 3) := by decide +kernel
theorem dX7_runs_28 : decode cX7_runs 28 = .ok (.iconst 4, 1) := by decide +kernel
theorem dX7_runs_29 : decode cX7_runs 29 = .ok (.iaload, 1) := by decide +kernel
theorem dX7_runs_30 : decode cX7_runs 30 = .ok (.iload_n 2, 1) := by decide +kernel
theorem dX7_runs_31 : decode cX7_runs 31 = .ok (.isub, 1) := by decide +kernel
theorem dX7_runs_32 : decode cX7_runs 32 = .ok (.ireturn, 1) := by decide +kernel
theorem dX7_isBeacon_0 : decode cX7_isBeacon 0 = .ok (.iload_n 1, 1) := by decide +kernel
theorem dX7_isBeacon_1 : decode cX7_isBeacon 1 = .ok (.i2l, 1) := by decide +kernel
theorem dX7_isBeacon_2 : decode cX7_isBeacon 2 = .ok (.lconst 0, 1) := by decide +kernel
theorem dX7_isBeacon_3 : decode cX7_isBeacon 3 = .ok (.aload_n 0, 1) := by decide +kernel
theorem dX7_isBeacon_4 : decode cX7_isBeacon 4 = .ok (.getfield 20, 3) := by decide +kernel
theorem dX7_isBeacon_7 : decode cX7_isBeacon 7 = .ok (.iconst 0, 1) := by decide +kernel
theorem dX7_isBeacon_8 : decode cX7_isBeacon 8 = .ok (.iaload, 1) := by decide +kernel
theorem dX7_isBeacon_9 : decode cX7_isBeacon 9 = .ok (.iconst 1, 1) := by decide +kernel
theorem dX7_isBeacon_10 : decode cX7_isBeacon 10 = .ok (.isub, 1) := by decide +kernel
theorem dX7_isBeacon_11 : decode cX7_isBeacon 11 = .ok (.i2l, 1) := by decide +kernel
theorem dX7_isBeacon_12 : decode cX7_isBeacon 12 = .ok (.invokestatic 84, 3) := by decide +kernel
theorem dX7_isBeacon_15 : decode cX7_isBeacon 15 = .ok (.ireturn, 1) := by decide +kernel
theorem dX7_areBeacons_0 : decode cX7_areBeacons 0 = .ok (.aload_n 0, 1) := by decide +kernel
theorem dX7_areBeacons_1 : decode cX7_areBeacons 1 = .ok (.iload_n 1, 1) := by decide +kernel
theorem dX7_areBeacons_2 : decode cX7_areBeacons 2 = .ok (.invokevirtual 341, 3) := by decide +kernel
theorem dX7_areBeacons_5 : decode cX7_areBeacons 5 = .ok (.ifCond .eq 15, 3) := by decide +kernel
theorem dX7_areBeacons_8 : decode cX7_areBeacons 8 = .ok (.aload_n 0, 1) := by decide +kernel
theorem dX7_areBeacons_9 : decode cX7_areBeacons 9 = .ok (.iload_n 2, 1) := by decide +kernel
theorem dX7_areBeacons_10 : decode cX7_areBeacons 10 = .ok (.invokevirtual 341, 3) := by decide +kernel
theorem dX7_areBeacons_13 : decode cX7_areBeacons 13 = .ok (.ifCond .eq 7, 3) := by decide +kernel
theorem dX7_areBeacons_16 : decode cX7_areBeacons 16 = .ok (.iconst 1, 1) := by decide +kernel
theorem dX7_areBeacons_17 : decode cX7_areBeacons 17 = .ok (.goto 4, 3) := by decide +kernel
theorem dX7_areBeacons_20 : decode cX7_areBeacons 20 = .ok (.iconst 0, 1) := by decide +kernel
theorem dX7_areBeacons_21 : decode cX7_areBeacons 21 = .ok (.ireturn, 1) := by decide +kernel
theorem dX7_pairs_0 : decode cX7_pairs 0 = .ok (.iconst 0, 1) := by decide +kernel
theorem dX7_pairs_1 : decode cX7_pairs 1 = .ok (.istore_n 1, 1) := by decide +kernel
theorem dX7_pairs_2 : decode cX7_pairs 2 = .ok (.iconst 0, 1) := by decide +kernel
theorem dX7_pairs_3 : decode cX7_pairs 3 = .ok (.istore_n 2, 1) := by decide +kernel
theorem dX7_pairs_4 : decode cX7_pairs 4 = .ok (.iload_n 2, 1) := by decide +kernel
theorem dX7_pairs_5 : decode cX7_pairs 5 = .ok (.aload_n 0, 1) := by decide +kernel
theorem dX7_pairs_6 : decode cX7_pairs 6 = .ok (.getfield 20, 3) := by decide +kernel
theorem dX7_pairs_9 : decode cX7_pairs 9 = .ok (.iconst 0, 1) := by decide +kernel
theorem dX7_pairs_10 : decode cX7_pairs 10 = .ok (.iaload, 1) := by decide +kernel
theorem dX7_pairs_11 : decode cX7_pairs 11 = .ok (.if_icmp .ge 24, 3) := by decide +kernel
theorem dX7_pairs_14 : decode cX7_pairs 14 = .ok (.iload_n 1, 1) := by decide +kernel
theorem dX7_pairs_15 : decode cX7_pairs 15 = .ok (.aload_n 0, 1) := by decide +kernel
theorem dX7_pairs_16 : decode cX7_pairs 16 = .ok (.getfield 20, 3) := by decide +kernel
theorem dX7_pairs_19 : decode cX7_pairs 19 = .ok (.bipush 13, 2) := by decide +kernel
theorem dX7_pairs_21 : decode cX7_pairs 21 = .ok (.iload_n 2, 1) := by decide +kernel
theorem dX7_pairs_22 : decode cX7_pairs 22 = .ok (.iadd, 1) := by decide +kernel
theorem dX7_pairs_23 : decode cX7_pairs 23 = .ok (.iaload, 1) := by decide +kernel
theorem dX7_pairs_24 : decode cX7_pairs 24 = .ok (.invokestatic 300, 3) := by decide +kernel
theorem dX7_pairs_27 : decode cX7_pairs 27 = .ok (.iadd, 1) := by decide +kernel
theorem dX7_pairs_28 : decode cX7_pairs 28 = .ok (.istore_n 1, 1) := by decide +kernel
theorem dX7_pairs_29 : decode cX7_pairs 29 = .ok (.iinc 2 1, 3) := by decide +kernel
theorem dX7_pairs_32 : decode cX7_pairs 32 = .ok (.goto (-28), 3) := by decide +kernel
theorem dX7_pairs_35 : decode cX7_pairs 35 = .ok (.iload_n 1, 1) := by decide +kernel
theorem dX7_pairs_36 : decode cX7_pairs 36 = .ok (.ireturn, 1) := by decide +kernel
theorem dX7_outMany_0 : decode cX7_outMany 0 = .ok (.iconst 0, 1) := by decide +kernel
theorem dX7_outMany_1 : decode cX7_outMany 1 = .ok (.istore_n 1, 1) := by decide +kernel
theorem dX7_outMany_2 : decode cX7_outMany 2 = .ok (.iconst 0, 1) := by decide +kernel
theorem dX7_outMany_3 : decode cX7_outMany 3 = .ok (.istore_n 2, 1) := by decide +kernel
theorem dX7_outMany_4 : decode cX7_outMany 4 = .ok (.iload_n 2, 1) := by decide +kernel
theorem dX7_outMany_5 : decode cX7_outMany 5 = .ok (.aload_n 0, 1) := by decide +kernel
theorem dX7_outMany_6 : decode cX7_outMany 6 = .ok (.getfield 20, 3) := by decide +kernel
theorem dX7_outMany_9 : decode cX7_outMany 9 = .ok (.iconst 0, 1) := by decide +kernel
theorem dX7_outMany_10 : decode cX7_outMany 10 = .ok (.iaload, 1) := by decide +kernel
theorem dX7_outMany_11 : decode cX7_outMany 11 = .ok (.if_icmp .ge 21, 3) := by decide +kernel
theorem dX7_outMany_14 : decode cX7_outMany 14 = .ok (.iload_n 1, 1) := by decide +kernel
theorem dX7_outMany_15 : decode cX7_outMany 15 = .ok (.aload_n 0, 1) := by decide +kernel
theorem dX7_outMany_16 : decode cX7_outMany 16 = .ok (.iload_n 2, 1) := by decide +kernel
theorem dX7_outMany_17 : decode cX7_outMany 17 = .ok (.iconst 4, 1) := by decide +kernel
theorem dX7_outMany_18 : decode cX7_outMany 18 = .ok (.invokevirtual 297, 3) := by decide +kernel
theorem dX7_outMany_21 : decode cX7_outMany 21 = .ok (.invokestatic 69, 3) := by decide +kernel
theorem dX7_outMany_24 : decode cX7_outMany 24 = .ok (.iadd, 1) := by decide +kernel
theorem dX7_outMany_25 : decode cX7_outMany 25 = .ok (.istore_n 1, 1) := by decide +kernel
theorem dX7_outMany_26 : decode cX7_outMany 26 = .ok (.iinc 2 1, 3) := by decide +kernel
theorem dX7_outMany_29 : decode cX7_outMany 29 = .ok (.goto (-25), 3) := by decide +kernel
theorem dX7_outMany_32 : decode cX7_outMany 32 = .ok (.iload_n 1, 1) := by decide +kernel
theorem dX7_outMany_33 : decode cX7_outMany 33 = .ok (.ireturn, 1) := by decide +kernel
theorem dX7_setting_0 : decode cX7_setting 0 = .ok (.aload_n 0, 1) := by decide +kernel
theorem dX7_setting_1 : decode cX7_setting 1 = .ok (.iload_n 1, 1) := by decide +kernel
theorem dX7_setting_2 : decode cX7_setting 2 = .ok (.i2l, 1) := by decide +kernel
theorem dX7_setting_3 : decode cX7_setting 3 = .ok (.lconst 0, 1) := by decide +kernel
theorem dX7_setting_4 : decode cX7_setting 4 = .ok (.ldc2_w 344, 3) := by decide +kernel
theorem dX7_setting_7 : decode cX7_setting 7 = .ok (.invokestatic 84, 3) := by decide +kernel
theorem dX7_setting_10 : decode cX7_setting 10 = .ok (.invokevirtual 76, 3) := by decide +kernel
theorem dX7_setting_13 : decode cX7_setting 13 = .ok (.ifCond .ne 5, 3) := by decide +kernel
theorem dX7_setting_16 : decode cX7_setting 16 = .ok (.iconst 0, 1) := by decide +kernel
theorem dX7_setting_17 : decode cX7_setting 17 = .ok (.ireturn, 1) := by decide +kernel
theorem dX7_setting_18 : decode cX7_setting 18 = .ok (.iload_n 1, 1) := by decide +kernel
theorem dX7_setting_19 : decode cX7_setting 19 = .ok (.tableswitch 123 0 9 #[53, 60, 67, 74, 81, 88, 95, 102, 110, 115], 53) := by decide +kernel
theorem dX7_setting_72 : decode cX7_setting 72 = .ok (.aload_n 0, 1) := by decide +kernel
theorem dX7_setting_73 : decode cX7_setting 73 = .ok (.getfield 20, 3) := by decide +kernel
theorem dX7_setting_76 : decode cX7_setting 76 = .ok (.iconst 0, 1) := by decide +kernel
theorem dX7_setting_77 : decode cX7_setting 77 = .ok (.iaload, 1) := by decide +kernel
theorem dX7_setting_78 : decode cX7_setting 78 = .ok (.ireturn, 1) := by decide +kernel
theorem dX7_setting_79 : decode cX7_setting 79 = .ok (.aload_n 0, 1) := by decide +kernel
theorem dX7_setting_80 : decode cX7_setting 80 = .ok (.invokevirtual 346, 3) := by decide +kernel
theorem dX7_setting_83 : decode cX7_setting 83 = .ok (.iconst 2, 1) := by decide +kernel
theorem dX7_setting_84 : decode cX7_setting 84 = .ok (.idiv, 1) := by decide +kernel
theorem dX7_setting_85 : decode cX7_setting 85 = .ok (.ireturn, 1) := by decide +kernel
theorem dX7_setting_86 : decode cX7_setting 86 = .ok (.aload_n 0, 1) := by decide +kernel
theorem dX7_setting_87 : decode cX7_setting 87 = .ok (.getfield 20, 3) := by decide +kernel
theorem dX7_setting_90 : decode cX7_setting 90 = .ok (.iconst 1, 1) := by decide +kernel
theorem dX7_setting_91 : decode cX7_setting 91 = .ok (.iaload, 1) := by decide +kernel
theorem dX7_setting_92 : decode cX7_setting 92 = .ok (.ireturn, 1) := by decide +kernel
theorem dX7_setting_93 : decode cX7_setting 93 = .ok (.aload_n 0, 1) := by decide +kernel
theorem dX7_setting_94 : decode cX7_setting 94 = .ok (.getfield 20, 3) := by decide +kernel
theorem dX7_setting_97 : decode cX7_setting 97 = .ok (.iconst 2, 1) := by decide +kernel
theorem dX7_setting_98 : decode cX7_setting 98 = .ok (.iaload, 1) := by decide +kernel
theorem dX7_setting_99 : decode cX7_setting 99 = .ok (.ireturn, 1) := by decide +kernel
theorem dX7_setting_100 : decode cX7_setting 100 = .ok (.aload_n 0, 1) := by decide +kernel
theorem dX7_setting_101 : decode cX7_setting 101 = .ok (.getfield 20, 3) := by decide +kernel
theorem dX7_setting_104 : decode cX7_setting 104 = .ok (.iconst 3, 1) := by decide +kernel
theorem dX7_setting_105 : decode cX7_setting 105 = .ok (.iaload, 1) := by decide +kernel
theorem dX7_setting_106 : decode cX7_setting 106 = .ok (.ireturn, 1) := by decide +kernel
theorem dX7_setting_107 : decode cX7_setting 107 = .ok (.aload_n 0, 1) := by decide +kernel
theorem dX7_setting_108 : decode cX7_setting 108 = .ok (.getfield 20, 3) := by decide +kernel
theorem dX7_setting_111 : decode cX7_setting 111 = .ok (.iconst 4, 1) := by decide +kernel
theorem dX7_setting_112 : decode cX7_setting 112 = .ok (.iaload, 1) := by decide +kernel
theorem dX7_setting_113 : decode cX7_setting 113 = .ok (.ireturn, 1) := by decide +kernel
theorem dX7_setting_114 : decode cX7_setting 114 = .ok (.aload_n 0, 1) := by decide +kernel
theorem dX7_setting_115 : decode cX7_setting 115 = .ok (.getfield 20, 3) := by decide +kernel
theorem dX7_setting_118 : decode cX7_setting 118 = .ok (.iconst 5, 1) := by decide +kernel
theorem dX7_setting_119 : decode cX7_setting 119 = .ok (.iaload, 1) := by decide +kernel
theorem dX7_setting_120 : decode cX7_setting 120 = .ok (.ireturn, 1) := by decide +kernel
theorem dX7_setting_121 : decode cX7_setting 121 = .ok (.aload_n 0, 1) := by decide +kernel
theorem dX7_setting_122 : decode cX7_setting 122 = .ok (.getfield 20, 3) := by decide +kernel
theorem dX7_setting_125 : decode cX7_setting 125 = .ok (.bipush 6, 2) := by decide +kernel
theorem dX7_setting_127 : decode cX7_setting 127 = .ok (.iaload, 1) := by decide +kernel
theorem dX7_setting_128 : decode cX7_setting 128 = .ok (.ireturn, 1) := by decide +kernel
theorem dX7_setting_129 : decode cX7_setting 129 = .ok (.aload_n 0, 1) := by decide +kernel
theorem dX7_setting_130 : decode cX7_setting 130 = .ok (.invokevirtual 349, 3) := by decide +kernel
theorem dX7_setting_133 : decode cX7_setting 133 = .ok (.ireturn, 1) := by decide +kernel
theorem dX7_setting_134 : decode cX7_setting 134 = .ok (.aload_n 0, 1) := by decide +kernel
theorem dX7_setting_135 : decode cX7_setting 135 = .ok (.getfield 20, 3) := by decide +kernel
theorem dX7_setting_138 : decode cX7_setting 138 = .ok (.bipush 7, 2) := by decide +kernel
theorem dX7_setting_140 : decode cX7_setting 140 = .ok (.iaload, 1) := by decide +kernel
theorem dX7_setting_141 : decode cX7_setting 141 = .ok (.ireturn, 1) := by decide +kernel
theorem dX7_setting_142 : decode cX7_setting 142 = .ok (.aload_n 0, 1) := by decide +kernel
theorem dX7_setting_143 : decode cX7_setting 143 = .ok (.getfield 156, 3) := by decide +kernel
theorem dX7_setting_146 : decode cX7_setting 146 = .ok (.ireturn, 1) := by decide +kernel
theorem dX7_beacon_0 : decode cX7_beacon 0 = .ok (.aload_n 0, 1) := by decide +kernel
theorem dX7_beacon_1 : decode cX7_beacon 1 = .ok (.aload_n 0, 1) := by decide +kernel
theorem dX7_beacon_2 : decode cX7_beacon 2 = .ok (.iload_n 1, 1) := by decide +kernel
theorem dX7_beacon_3 : decode cX7_beacon 3 = .ok (.invokevirtual 341, 3) := by decide +kernel
theorem dX7_beacon_6 : decode cX7_beacon 6 = .ok (.iload_n 2, 1) := by decide +kernel
theorem dX7_beacon_7 : decode cX7_beacon 7 = .ok (.i2l, 1) := by decide +kernel
theorem dX7_beacon_8 : decode cX7_beacon 8 = .ok (.lconst 0, 1) := by decide +kernel
theorem dX7_beacon_9 : decode cX7_beacon 9 = .ok (.ldc2_w 352, 3) := by decide +kernel
theorem dX7_beacon_12 : decode cX7_beacon 12 = .ok (.invokestatic 84, 3) := by decide +kernel
theorem dX7_beacon_15 : decode cX7_beacon 15 = .ok (.invokevirtual 354, 3) := by decide +kernel
theorem dX7_beacon_18 : decode cX7_beacon 18 = .ok (.ifCond .ne 5, 3) := by decide +kernel
theorem dX7_beacon_21 : decode cX7_beacon 21 = .ok (.iconst 0, 1) := by decide +kernel
theorem dX7_beacon_22 : decode cX7_beacon 22 = .ok (.ireturn, 1) := by decide +kernel
theorem dX7_beacon_23 : decode cX7_beacon 23 = .ok (.iload_n 2, 1) := by decide +kernel
theorem dX7_beacon_24 : decode cX7_beacon 24 = .ok (.lookupswitch 44 #[(9, 28), (10, 38)], 28) := by decide +kernel
theorem dX7_beacon_52 : decode cX7_beacon 52 = .ok (.aload_n 0, 1) := by decide +kernel
theorem dX7_beacon_53 : decode cX7_beacon 53 = .ok (.getfield 20, 3) := by decide +kernel
theorem dX7_beacon_56 : decode cX7_beacon 56 = .ok (.bipush 13, 2) := by decide +kernel
theorem dX7_beacon_58 : decode cX7_beacon 58 = .ok (.iload_n 1, 1) := by decide +kernel
theorem dX7_beacon_59 : decode cX7_beacon 59 = .ok (.iadd, 1) := by decide +kernel
theorem dX7_beacon_60 : decode cX7_beacon 60 = .ok (.iaload, 1) := by decide +kernel
theorem dX7_beacon_61 : decode cX7_beacon 61 = .ok (.ireturn, 1) := by decide +kernel
theorem dX7_beacon_62 : decode cX7_beacon 62 = .ok (.aload_n 0, 1) := by decide +kernel
theorem dX7_beacon_63 : decode cX7_beacon 63 = .ok (.iload_n 1, 1) := by decide +kernel
theorem dX7_beacon_64 : decode cX7_beacon 64 = .ok (.invokevirtual 257, 3) := by decide +kernel
theorem dX7_beacon_67 : decode cX7_beacon 67 = .ok (.ireturn, 1) := by decide +kernel
theorem dX7_beacon_68 : decode cX7_beacon 68 = .ok (.aload_n 0, 1) := by decide +kernel
theorem dX7_beacon_69 : decode cX7_beacon 69 = .ok (.iload_n 1, 1) := by decide +kernel
theorem dX7_beacon_70 : decode cX7_beacon 70 = .ok (.iload_n 2, 1) := by decide +kernel
theorem dX7_beacon_71 : decode cX7_beacon 71 = .ok (.invokevirtual 251, 3) := by decide +kernel
theorem dX7_beacon_74 : decode cX7_beacon 74 = .ok (.ireturn, 1) := by decide +kernel
theorem dX7_slots_0 : decode cX7_slots 0 = .ok (.aload_n 0, 1) := by decide +kernel
theorem dX7_slots_1 : decode cX7_slots 1 = .ok (.aload_n 0, 1) := by decide +kernel
theorem dX7_slots_2 : decode cX7_slots 2 = .ok (.iload_n 1, 1) := by decide +kernel
theorem dX7_slots_3 : decode cX7_slots 3 = .ok (.invokevirtual 341, 3) := by decide +kernel
theorem dX7_slots_6 : decode cX7_slots 6 = .ok (.iload_n 2, 1) := by decide +kernel
theorem dX7_slots_7 : decode cX7_slots 7 = .ok (.i2l, 1) := by decide +kernel
theorem dX7_slots_8 : decode cX7_slots 8 = .ok (.lconst 0, 1) := by decide +kernel
theorem dX7_slots_9 : decode cX7_slots 9 = .ok (.ldc2_w 358, 3) := by decide +kernel
theorem dX7_slots_12 : decode cX7_slots 12 = .ok (.invokestatic 84, 3) := by decide +kernel
theorem dX7_slots_15 : decode cX7_slots 15 = .ok (.invokevirtual 354, 3) := by decide +kernel
theorem dX7_slots_18 : decode cX7_slots 18 = .ok (.ifCond .eq 15, 3) := by decide +kernel
theorem dX7_slots_21 : decode cX7_slots 21 = .ok (.aload_n 0, 1) := by decide +kernel
theorem dX7_slots_22 : decode cX7_slots 22 = .ok (.iload_n 1, 1) := by decide +kernel
theorem dX7_slots_23 : decode cX7_slots 23 = .ok (.bipush 14, 2) := by decide +kernel
theorem dX7_slots_25 : decode cX7_slots 25 = .ok (.iload_n 2, 1) := by decide +kernel
theorem dX7_slots_26 : decode cX7_slots 26 = .ok (.iadd, 1) := by decide +kernel
theorem dX7_slots_27 : decode cX7_slots 27 = .ok (.invokevirtual 251, 3) := by decide +kernel
theorem dX7_slots_30 : decode cX7_slots 30 = .ok (.goto 4, 3) := by decide +kernel
theorem dX7_slots_33 : decode cX7_slots 33 = .ok (.iconst 0, 1) := by decide +kernel
theorem dX7_slots_34 : decode cX7_slots 34 = .ok (.ireturn, 1) := by decide +kernel
theorem dX7_reckoned_0 : decode cX7_reckoned 0 = .ok (.aload_n 0, 1) := by decide +kernel
theorem dX7_reckoned_1 : decode cX7_reckoned 1 = .ok (.aload_n 0, 1) := by decide +kernel
theorem dX7_reckoned_2 : decode cX7_reckoned 2 = .ok (.iload_n 1, 1) := by decide +kernel
theorem dX7_reckoned_3 : decode cX7_reckoned 3 = .ok (.invokevirtual 341, 3) := by decide +kernel
theorem dX7_reckoned_6 : decode cX7_reckoned 6 = .ok (.invokevirtual 76, 3) := by decide +kernel
theorem dX7_reckoned_9 : decode cX7_reckoned 9 = .ok (.ifCond .ne 5, 3) := by decide +kernel
theorem dX7_reckoned_12 : decode cX7_reckoned 12 = .ok (.iconst 0, 1) := by decide +kernel
theorem dX7_reckoned_13 : decode cX7_reckoned 13 = .ok (.ireturn, 1) := by decide +kernel
theorem dX7_reckoned_14 : decode cX7_reckoned 14 = .ok (.iconst 0, 1) := by decide +kernel
theorem dX7_reckoned_15 : decode cX7_reckoned 15 = .ok (.istore_n 2, 1) := by decide +kernel
theorem dX7_reckoned_16 : decode cX7_reckoned 16 = .ok (.iconst 0, 1) := by decide +kernel
theorem dX7_reckoned_17 : decode cX7_reckoned 17 = .ok (.istore_n 3, 1) := by decide +kernel
theorem dX7_reckoned_18 : decode cX7_reckoned 18 = .ok (.iload_n 3, 1) := by decide +kernel
theorem dX7_reckoned_19 : decode cX7_reckoned 19 = .ok (.iconst 4, 1) := by decide +kernel
theorem dX7_reckoned_20 : decode cX7_reckoned 20 = .ok (.if_icmp .ge 31, 3) := by decide +kernel
theorem dX7_reckoned_23 : decode cX7_reckoned 23 = .ok (.iload_n 2, 1) := by decide +kernel
theorem dX7_reckoned_24 : decode cX7_reckoned 24 = .ok (.aload_n 0, 1) := by decide +kernel
theorem dX7_reckoned_25 : decode cX7_reckoned 25 = .ok (.iload_n 1, 1) := by decide +kernel
theorem dX7_reckoned_26 : decode cX7_reckoned 26 = .ok (.bipush 14, 2) := by decide +kernel
theorem dX7_reckoned_28 : decode cX7_reckoned 28 = .ok (.iload_n 3, 1) := by decide +kernel
theorem dX7_reckoned_29 : decode cX7_reckoned 29 = .ok (.iadd, 1) := by decide +kernel
theorem dX7_reckoned_30 : decode cX7_reckoned 30 = .ok (.invokevirtual 251, 3) := by decide +kernel
theorem dX7_reckoned_33 : decode cX7_reckoned 33 = .ok (.aload_n 0, 1) := by decide +kernel
theorem dX7_reckoned_34 : decode cX7_reckoned 34 = .ok (.getfield 20, 3) := by decide +kernel
theorem dX7_reckoned_37 : decode cX7_reckoned 37 = .ok (.bipush 8, 2) := by decide +kernel
theorem dX7_reckoned_39 : decode cX7_reckoned 39 = .ok (.iload_n 3, 1) := by decide +kernel
theorem dX7_reckoned_40 : decode cX7_reckoned 40 = .ok (.iadd, 1) := by decide +kernel
theorem dX7_reckoned_41 : decode cX7_reckoned 41 = .ok (.iaload, 1) := by decide +kernel
theorem dX7_reckoned_42 : decode cX7_reckoned 42 = .ok (.imul, 1) := by decide +kernel
theorem dX7_reckoned_43 : decode cX7_reckoned 43 = .ok (.iadd, 1) := by decide +kernel
theorem dX7_reckoned_44 : decode cX7_reckoned 44 = .ok (.istore_n 2, 1) := by decide +kernel
theorem dX7_reckoned_45 : decode cX7_reckoned 45 = .ok (.iinc 3 1, 3) := by decide +kernel
theorem dX7_reckoned_48 : decode cX7_reckoned 48 = .ok (.goto (-30), 3) := by decide +kernel
theorem dX7_reckoned_51 : decode cX7_reckoned 51 = .ok (.iload_n 2, 1) := by decide +kernel
theorem dX7_reckoned_52 : decode cX7_reckoned 52 = .ok (.ireturn, 1) := by decide +kernel
theorem dX7_lettersOf_0 : decode cX7_lettersOf 0 = .ok (.iconst 0, 1) := by decide +kernel
theorem dX7_lettersOf_1 : decode cX7_lettersOf 1 = .ok (.istore_n 2, 1) := by decide +kernel
theorem dX7_lettersOf_2 : decode cX7_lettersOf 2 = .ok (.lload_n 0, 1) := by decide +kernel
theorem dX7_lettersOf_3 : decode cX7_lettersOf 3 = .ok (.lstore_n 3, 1) := by decide +kernel
theorem dX7_lettersOf_4 : decode cX7_lettersOf 4 = .ok (.lload_n 3, 1) := by decide +kernel
theorem dX7_lettersOf_5 : decode cX7_lettersOf 5 = .ok (.lconst 0, 1) := by decide +kernel
theorem dX7_lettersOf_6 : decode cX7_lettersOf 6 = .ok (.lcmp, 1) := by decide +kernel
theorem dX7_lettersOf_7 : decode cX7_lettersOf 7 = .ok (.ifCond .le 13, 3) := by decide +kernel
theorem dX7_lettersOf_10 : decode cX7_lettersOf 10 = .ok (.iinc 2 1, 3) := by decide +kernel
theorem dX7_lettersOf_13 : decode cX7_lettersOf 13 = .ok (.lload_n 3, 1) := by decide +kernel
theorem dX7_lettersOf_14 : decode cX7_lettersOf 14 = .ok (.iconst 5, 1) := by decide +kernel
theorem dX7_lettersOf_15 : decode cX7_lettersOf 15 = .ok (.lshr, 1) := by decide +kernel
theorem dX7_lettersOf_16 : decode cX7_lettersOf 16 = .ok (.lstore_n 3, 1) := by decide +kernel
theorem dX7_lettersOf_17 : decode cX7_lettersOf 17 = .ok (.goto (-13), 3) := by decide +kernel
theorem dX7_lettersOf_20 : decode cX7_lettersOf 20 = .ok (.iload_n 2, 1) := by decide +kernel
theorem dX7_lettersOf_21 : decode cX7_lettersOf 21 = .ok (.ireturn, 1) := by decide +kernel
theorem dX7_letterOf_0 : decode cX7_letterOf 0 = .ok (.lload_n 0, 1) := by decide +kernel
theorem dX7_letterOf_1 : decode cX7_letterOf 1 = .ok (.invokestatic 360, 3) := by decide +kernel
theorem dX7_letterOf_4 : decode cX7_letterOf 4 = .ok (.istore_n 3, 1) := by decide +kernel
theorem dX7_letterOf_5 : decode cX7_letterOf 5 = .ok (.iload_n 2, 1) := by decide +kernel
theorem dX7_letterOf_6 : decode cX7_letterOf 6 = .ok (.i2l, 1) := by decide +kernel
theorem dX7_letterOf_7 : decode cX7_letterOf 7 = .ok (.lconst 0, 1) := by decide +kernel
theorem dX7_letterOf_8 : decode cX7_letterOf 8 = .ok (.iload_n 3, 1) := by decide +kernel
theorem dX7_letterOf_9 : decode cX7_letterOf 9 = .ok (.iconst 1, 1) := by decide +kernel
theorem dX7_letterOf_10 : decode cX7_letterOf 10 = .ok (.isub, 1) := by decide +kernel
theorem dX7_letterOf_11 : decode cX7_letterOf 11 = .ok (.i2l, 1) := by decide +kernel
theorem dX7_letterOf_12 : decode cX7_letterOf 12 = .ok (.invokestatic 84, 3) := by decide +kernel
theorem dX7_letterOf_15 : decode cX7_letterOf 15 = .ok (.ifCond .eq 23, 3) := by decide +kernel
theorem dX7_letterOf_18 : decode cX7_letterOf 18 = .ok (.lload_n 0, 1) := by decide +kernel
theorem dX7_letterOf_19 : decode cX7_letterOf 19 = .ok (.iconst 5, 1) := by decide +kernel
theorem dX7_letterOf_20 : decode cX7_letterOf 20 = .ok (.iload_n 3, 1) := by decide +kernel
theorem dX7_letterOf_21 : decode cX7_letterOf 21 = .ok (.iconst 1, 1) := by decide +kernel
theorem dX7_letterOf_22 : decode cX7_letterOf 22 = .ok (.isub, 1) := by decide +kernel
theorem dX7_letterOf_23 : decode cX7_letterOf 23 = .ok (.iload_n 2, 1) := by decide +kernel
theorem dX7_letterOf_24 : decode cX7_letterOf 24 = .ok (.isub, 1) := by decide +kernel
theorem dX7_letterOf_25 : decode cX7_letterOf 25 = .ok (.imul, 1) := by decide +kernel
theorem dX7_letterOf_26 : decode cX7_letterOf 26 = .ok (.lshr, 1) := by decide +kernel
theorem dX7_letterOf_27 : decode cX7_letterOf 27 = .ok (.ldc2_w 364, 3) := by decide +kernel
theorem dX7_letterOf_30 : decode cX7_letterOf 30 = .ok (.land, 1) := by decide +kernel
theorem dX7_letterOf_31 : decode cX7_letterOf 31 = .ok (.l2i, 1) := by decide +kernel
theorem dX7_letterOf_32 : decode cX7_letterOf 32 = .ok (.bipush 96, 2) := by decide +kernel
theorem dX7_letterOf_34 : decode cX7_letterOf 34 = .ok (.iadd, 1) := by decide +kernel
theorem dX7_letterOf_35 : decode cX7_letterOf 35 = .ok (.goto 4, 3) := by decide +kernel
theorem dX7_letterOf_38 : decode cX7_letterOf 38 = .ok (.iconst 0, 1) := by decide +kernel
theorem dX7_letterOf_39 : decode cX7_letterOf 39 = .ok (.ireturn, 1) := by decide +kernel
theorem dX7_letter_0 : decode cX7_letter 0 = .ok (.aload_n 0, 1) := by decide +kernel
theorem dX7_letter_1 : decode cX7_letter 1 = .ok (.aload_n 0, 1) := by decide +kernel
theorem dX7_letter_2 : decode cX7_letter 2 = .ok (.iload_n 1, 1) := by decide +kernel
theorem dX7_letter_3 : decode cX7_letter 3 = .ok (.invokevirtual 341, 3) := by decide +kernel
theorem dX7_letter_6 : decode cX7_letter 6 = .ok (.invokevirtual 76, 3) := by decide +kernel
theorem dX7_letter_9 : decode cX7_letter 9 = .ok (.ifCond .eq 16, 3) := by decide +kernel
theorem dX7_letter_12 : decode cX7_letter 12 = .ok (.aload_n 0, 1) := by decide +kernel
theorem dX7_letter_13 : decode cX7_letter 13 = .ok (.getfield 35, 3) := by decide +kernel
theorem dX7_letter_16 : decode cX7_letter 16 = .ok (.iload_n 1, 1) := by decide +kernel
theorem dX7_letter_17 : decode cX7_letter 17 = .ok (.laload, 1) := by decide +kernel
theorem dX7_letter_18 : decode cX7_letter 18 = .ok (.iload_n 2, 1) := by decide +kernel
theorem dX7_letter_19 : decode cX7_letter 19 = .ok (.invokestatic 366, 3) := by decide +kernel
theorem dX7_letter_22 : decode cX7_letter 22 = .ok (.goto 4, 3) := by decide +kernel
theorem dX7_letter_25 : decode cX7_letter 25 = .ok (.iconst 0, 1) := by decide +kernel
theorem dX7_letter_26 : decode cX7_letter 26 = .ok (.ireturn, 1) := by decide +kernel
theorem dX7_heard_0 : decode cX7_heard 0 = .ok (.aload_n 0, 1) := by decide +kernel
theorem dX7_heard_1 : decode cX7_heard 1 = .ok (.aload_n 0, 1) := by decide +kernel
theorem dX7_heard_2 : decode cX7_heard 2 = .ok (.iload_n 1, 1) := by decide +kernel
theorem dX7_heard_3 : decode cX7_heard 3 = .ok (.iload_n 2, 1) := by decide +kernel
theorem dX7_heard_4 : decode cX7_heard 4 = .ok (.invokevirtual 370, 3) := by decide +kernel
theorem dX7_heard_7 : decode cX7_heard 7 = .ok (.invokevirtual 76, 3) := by decide +kernel
theorem dX7_heard_10 : decode cX7_heard 10 = .ok (.ifCond .eq 15, 3) := by decide +kernel
theorem dX7_heard_13 : decode cX7_heard 13 = .ok (.aload_n 0, 1) := by decide +kernel
theorem dX7_heard_14 : decode cX7_heard 14 = .ok (.iload_n 1, 1) := by decide +kernel
theorem dX7_heard_15 : decode cX7_heard 15 = .ok (.bipush 19, 2) := by decide +kernel
theorem dX7_heard_17 : decode cX7_heard 17 = .ok (.iload_n 2, 1) := by decide +kernel
theorem dX7_heard_18 : decode cX7_heard 18 = .ok (.iadd, 1) := by decide +kernel
theorem dX7_heard_19 : decode cX7_heard 19 = .ok (.invokevirtual 251, 3) := by decide +kernel
theorem dX7_heard_22 : decode cX7_heard 22 = .ok (.goto 4, 3) := by decide +kernel
theorem dX7_heard_25 : decode cX7_heard 25 = .ok (.iconst 0, 1) := by decide +kernel
theorem dX7_heard_26 : decode cX7_heard 26 = .ok (.ireturn, 1) := by decide +kernel
theorem dX7_knows_0 : decode cX7_knows 0 = .ok (.aload_n 0, 1) := by decide +kernel
theorem dX7_knows_1 : decode cX7_knows 1 = .ok (.aload_n 0, 1) := by decide +kernel
theorem dX7_knows_2 : decode cX7_knows 2 = .ok (.iload_n 1, 1) := by decide +kernel
theorem dX7_knows_3 : decode cX7_knows 3 = .ok (.iload_n 2, 1) := by decide +kernel
theorem dX7_knows_4 : decode cX7_knows 4 = .ok (.invokevirtual 370, 3) := by decide +kernel
theorem dX7_knows_7 : decode cX7_knows 7 = .ok (.invokevirtual 76, 3) := by decide +kernel
theorem dX7_knows_10 : decode cX7_knows 10 = .ok (.ifCond .eq 16, 3) := by decide +kernel
theorem dX7_knows_13 : decode cX7_knows 13 = .ok (.aload_n 0, 1) := by decide +kernel
theorem dX7_knows_14 : decode cX7_knows 14 = .ok (.iload_n 1, 1) := by decide +kernel
theorem dX7_knows_15 : decode cX7_knows 15 = .ok (.iload_n 2, 1) := by decide +kernel
theorem dX7_knows_16 : decode cX7_knows 16 = .ok (.invokevirtual 254, 3) := by decide +kernel
theorem dX7_knows_19 : decode cX7_knows 19 = .ok (.ifCond .eq 7, 3) := by decide +kernel
theorem dX7_knows_22 : decode cX7_knows 22 = .ok (.iconst 1, 1) := by decide +kernel
theorem dX7_knows_23 : decode cX7_knows 23 = .ok (.goto 4, 3) := by decide +kernel
theorem dX7_knows_26 : decode cX7_knows 26 = .ok (.iconst 0, 1) := by decide +kernel
theorem dX7_knows_27 : decode cX7_knows 27 = .ok (.ireturn, 1) := by decide +kernel
theorem dX7_drain_0 : decode cX7_drain 0 = .ok (.aload_n 0, 1) := by decide +kernel
theorem dX7_drain_1 : decode cX7_drain 1 = .ok (.iconst 0, 1) := by decide +kernel
theorem dX7_drain_2 : decode cX7_drain 2 = .ok (.putfield 66, 3) := by decide +kernel
theorem dX7_drain_5 : decode cX7_drain 5 = .ok (.iconst 0, 1) := by decide +kernel
theorem dX7_drain_6 : decode cX7_drain 6 = .ok (.istore_n 1, 1) := by decide +kernel
theorem dX7_drain_7 : decode cX7_drain 7 = .ok (.iconst 0, 1) := by decide +kernel
theorem dX7_drain_8 : decode cX7_drain 8 = .ok (.istore_n 2, 1) := by decide +kernel
theorem dX7_drain_9 : decode cX7_drain 9 = .ok (.iload_n 2, 1) := by decide +kernel
theorem dX7_drain_10 : decode cX7_drain 10 = .ok (.aload_n 0, 1) := by decide +kernel
theorem dX7_drain_11 : decode cX7_drain 11 = .ok (.getfield 20, 3) := by decide +kernel
theorem dX7_drain_14 : decode cX7_drain 14 = .ok (.iconst 0, 1) := by decide +kernel
theorem dX7_drain_15 : decode cX7_drain 15 = .ok (.iaload, 1) := by decide +kernel
theorem dX7_drain_16 : decode cX7_drain 16 = .ok (.if_icmp .ge 19, 3) := by decide +kernel
theorem dX7_drain_19 : decode cX7_drain 19 = .ok (.iload_n 1, 1) := by decide +kernel
theorem dX7_drain_20 : decode cX7_drain 20 = .ok (.aload_n 0, 1) := by decide +kernel
theorem dX7_drain_21 : decode cX7_drain 21 = .ok (.iload_n 2, 1) := by decide +kernel
theorem dX7_drain_22 : decode cX7_drain 22 = .ok (.bipush 13, 2) := by decide +kernel
theorem dX7_drain_24 : decode cX7_drain 24 = .ok (.invokevirtual 251, 3) := by decide +kernel
theorem dX7_drain_27 : decode cX7_drain 27 = .ok (.iadd, 1) := by decide +kernel
theorem dX7_drain_28 : decode cX7_drain 28 = .ok (.istore_n 1, 1) := by decide +kernel
theorem dX7_drain_29 : decode cX7_drain 29 = .ok (.iinc 2 1, 3) := by decide +kernel
theorem dX7_drain_32 : decode cX7_drain 32 = .ok (.goto (-23), 3) := by decide +kernel
theorem dX7_drain_35 : decode cX7_drain 35 = .ok (.aload_n 0, 1) := by decide +kernel
theorem dX7_drain_36 : decode cX7_drain 36 = .ok (.getfield 20, 3) := by decide +kernel
theorem dX7_drain_39 : decode cX7_drain 39 = .ok (.iconst 1, 1) := by decide +kernel
theorem dX7_drain_40 : decode cX7_drain 40 = .ok (.iaload, 1) := by decide +kernel
theorem dX7_drain_41 : decode cX7_drain 41 = .ok (.ifCond .ne 7, 3) := by decide +kernel
theorem dX7_drain_44 : decode cX7_drain 44 = .ok (.fconst 0, 1) := by decide +kernel
theorem dX7_drain_45 : decode cX7_drain 45 = .ok (.goto 13, 3) := by decide +kernel
theorem dX7_drain_48 : decode cX7_drain 48 = .ok (.iload_n 1, 1) := by decide +kernel
theorem dX7_drain_49 : decode cX7_drain 49 = .ok (.i2f, 1) := by decide +kernel
theorem dX7_drain_50 : decode cX7_drain 50 = .ok (.aload_n 0, 1) := by decide +kernel
theorem dX7_drain_51 : decode cX7_drain 51 = .ok (.getfield 20, 3) := by decide +kernel
theorem dX7_drain_54 : decode cX7_drain 54 = .ok (.iconst 1, 1) := by decide +kernel
theorem dX7_drain_55 : decode cX7_drain 55 = .ok (.iaload, 1) := by decide +kernel
theorem dX7_drain_56 : decode cX7_drain 56 = .ok (.i2f, 1) := by decide +kernel
theorem dX7_drain_57 : decode cX7_drain 57 = .ok (.fdiv, 1) := by decide +kernel
theorem dX7_drain_58 : decode cX7_drain 58 = .ok (.freturn, 1) := by decide +kernel
theorem dX7_knowledge_0 : decode cX7_knowledge 0 = .ok (.aload_n 0, 1) := by decide +kernel
theorem dX7_knowledge_1 : decode cX7_knowledge 1 = .ok (.iconst 0, 1) := by decide +kernel
theorem dX7_knowledge_2 : decode cX7_knowledge 2 = .ok (.putfield 66, 3) := by decide +kernel
theorem dX7_knowledge_5 : decode cX7_knowledge 5 = .ok (.iconst 0, 1) := by decide +kernel
theorem dX7_knowledge_6 : decode cX7_knowledge 6 = .ok (.istore_n 1, 1) := by decide +kernel
theorem dX7_knowledge_7 : decode cX7_knowledge 7 = .ok (.iconst 0, 1) := by decide +kernel
theorem dX7_knowledge_8 : decode cX7_knowledge 8 = .ok (.istore_n 2, 1) := by decide +kernel
theorem dX7_knowledge_9 : decode cX7_knowledge 9 = .ok (.iload_n 2, 1) := by decide +kernel
theorem dX7_knowledge_10 : decode cX7_knowledge 10 = .ok (.aload_n 0, 1) := by decide +kernel
theorem dX7_knowledge_11 : decode cX7_knowledge 11 = .ok (.getfield 20, 3) := by decide +kernel
theorem dX7_knowledge_14 : decode cX7_knowledge 14 = .ok (.iconst 0, 1) := by decide +kernel
theorem dX7_knowledge_15 : decode cX7_knowledge 15 = .ok (.iaload, 1) := by decide +kernel
theorem dX7_knowledge_16 : decode cX7_knowledge 16 = .ok (.if_icmp .ge 30, 3) := by decide +kernel
theorem dX7_knowledge_19 : decode cX7_knowledge 19 = .ok (.iload_n 1, 1) := by decide +kernel
theorem dX7_knowledge_20 : decode cX7_knowledge 20 = .ok (.aload_n 0, 1) := by decide +kernel
theorem dX7_knowledge_21 : decode cX7_knowledge 21 = .ok (.getfield 20, 3) := by decide +kernel
theorem dX7_knowledge_24 : decode cX7_knowledge 24 = .ok (.bipush 13, 2) := by decide +kernel
theorem dX7_knowledge_26 : decode cX7_knowledge 26 = .ok (.iload_n 2, 1) := by decide +kernel
theorem dX7_knowledge_27 : decode cX7_knowledge 27 = .ok (.iadd, 1) := by decide +kernel
theorem dX7_knowledge_28 : decode cX7_knowledge 28 = .ok (.iaload, 1) := by decide +kernel
theorem dX7_knowledge_29 : decode cX7_knowledge 29 = .ok (.aload_n 0, 1) := by decide +kernel
theorem dX7_knowledge_30 : decode cX7_knowledge 30 = .ok (.iload_n 2, 1) := by decide +kernel
theorem dX7_knowledge_31 : decode cX7_knowledge 31 = .ok (.invokevirtual 257, 3) := by decide +kernel
theorem dX7_knowledge_34 : decode cX7_knowledge 34 = .ok (.iand, 1) := by decide +kernel
theorem dX7_knowledge_35 : decode cX7_knowledge 35 = .ok (.invokestatic 300, 3) := by decide +kernel
theorem dX7_knowledge_38 : decode cX7_knowledge 38 = .ok (.iadd, 1) := by decide +kernel
theorem dX7_knowledge_39 : decode cX7_knowledge 39 = .ok (.istore_n 1, 1) := by decide +kernel
theorem dX7_knowledge_40 : decode cX7_knowledge 40 = .ok (.iinc 2 1, 3) := by decide +kernel
theorem dX7_knowledge_43 : decode cX7_knowledge 43 = .ok (.goto (-34), 3) := by decide +kernel
theorem dX7_knowledge_46 : decode cX7_knowledge 46 = .ok (.aload_n 0, 1) := by decide +kernel
theorem dX7_knowledge_47 : decode cX7_knowledge 47 = .ok (.invokevirtual 346, 3) := by decide +kernel
theorem dX7_knowledge_50 : decode cX7_knowledge 50 = .ok (.ifCond .ne 7, 3) := by decide +kernel
theorem dX7_knowledge_53 : decode cX7_knowledge 53 = .ok (.dconst 0, 1) := by decide +kernel
theorem dX7_knowledge_54 : decode cX7_knowledge 54 = .ok (.goto 11, 3) := by decide +kernel
theorem dX7_knowledge_57 : decode cX7_knowledge 57 = .ok (.iload_n 1, 1) := by decide +kernel
theorem dX7_knowledge_58 : decode cX7_knowledge 58 = .ok (.i2d, 1) := by decide +kernel
theorem dX7_knowledge_59 : decode cX7_knowledge 59 = .ok (.aload_n 0, 1) := by decide +kernel
theorem dX7_knowledge_60 : decode cX7_knowledge 60 = .ok (.invokevirtual 346, 3) := by decide +kernel
theorem dX7_knowledge_63 : decode cX7_knowledge 63 = .ok (.i2d, 1) := by decide +kernel
theorem dX7_knowledge_64 : decode cX7_knowledge 64 = .ok (.ddiv, 1) := by decide +kernel
theorem dX7_knowledge_65 : decode cX7_knowledge 65 = .ok (.dreturn, 1) := by decide +kernel
theorem dX7_why_0 : decode cX7_why 0 = .ok (.aload_n 0, 1) := by decide +kernel
theorem dX7_why_1 : decode cX7_why 1 = .ok (.aload_n 0, 1) := by decide +kernel
theorem dX7_why_2 : decode cX7_why 2 = .ok (.iload_n 1, 1) := by decide +kernel
theorem dX7_why_3 : decode cX7_why 3 = .ok (.invokevirtual 341, 3) := by decide +kernel
theorem dX7_why_6 : decode cX7_why 6 = .ok (.invokevirtual 76, 3) := by decide +kernel
theorem dX7_why_9 : decode cX7_why 9 = .ok (.ifCond .ne 5, 3) := by decide +kernel
theorem dX7_why_12 : decode cX7_why 12 = .ok (.iconst 0, 1) := by decide +kernel
theorem dX7_why_13 : decode cX7_why 13 = .ok (.ireturn, 1) := by decide +kernel
theorem dX7_why_14 : decode cX7_why 14 = .ok (.aload_n 0, 1) := by decide +kernel
theorem dX7_why_15 : decode cX7_why 15 = .ok (.iload_n 1, 1) := by decide +kernel
theorem dX7_why_16 : decode cX7_why 16 = .ok (.iconst 5, 1) := by decide +kernel
theorem dX7_why_17 : decode cX7_why 17 = .ok (.invokevirtual 251, 3) := by decide +kernel
theorem dX7_why_20 : decode cX7_why 20 = .ok (.tableswitch 44 0 4 #[40, 42, 44, 36, 38], 36) := by decide +kernel
theorem dX7_why_56 : decode cX7_why 56 = .ok (.iconst 0, 1) := by decide +kernel
theorem dX7_why_57 : decode cX7_why 57 = .ok (.ireturn, 1) := by decide +kernel
theorem dX7_why_58 : decode cX7_why 58 = .ok (.iconst 1, 1) := by decide +kernel
theorem dX7_why_59 : decode cX7_why 59 = .ok (.ireturn, 1) := by decide +kernel
theorem dX7_why_60 : decode cX7_why 60 = .ok (.iconst 2, 1) := by decide +kernel
theorem dX7_why_61 : decode cX7_why 61 = .ok (.ireturn, 1) := by decide +kernel
theorem dX7_why_62 : decode cX7_why 62 = .ok (.iconst 3, 1) := by decide +kernel
theorem dX7_why_63 : decode cX7_why 63 = .ok (.ireturn, 1) := by decide +kernel
theorem dX7_why_64 : decode cX7_why 64 = .ok (.aload_n 0, 1) := by decide +kernel
theorem dX7_why_65 : decode cX7_why 65 = .ok (.getfield 20, 3) := by decide +kernel
theorem dX7_why_68 : decode cX7_why 68 = .ok (.bipush 13, 2) := by decide +kernel
theorem dX7_why_70 : decode cX7_why 70 = .ok (.iload_n 1, 1) := by decide +kernel
theorem dX7_why_71 : decode cX7_why 71 = .ok (.iadd, 1) := by decide +kernel
theorem dX7_why_72 : decode cX7_why 72 = .ok (.iaload, 1) := by decide +kernel
theorem dX7_why_73 : decode cX7_why 73 = .ok (.aload_n 0, 1) := by decide +kernel
theorem dX7_why_74 : decode cX7_why 74 = .ok (.invokevirtual 325, 3) := by decide +kernel
theorem dX7_why_77 : decode cX7_why 77 = .ok (.iand, 1) := by decide +kernel
theorem dX7_why_78 : decode cX7_why 78 = .ok (.ifCond .eq 7, 3) := by decide +kernel
theorem dX7_why_81 : decode cX7_why 81 = .ok (.iconst 4, 1) := by decide +kernel
theorem dX7_why_82 : decode cX7_why 82 = .ok (.goto 4, 3) := by decide +kernel
theorem dX7_why_85 : decode cX7_why 85 = .ok (.iconst 5, 1) := by decide +kernel
theorem dX7_why_86 : decode cX7_why 86 = .ok (.ireturn, 1) := by decide +kernel
theorem dX7_whyNot_0 : decode cX7_whyNot 0 = .ok (.aload_n 0, 1) := by decide +kernel
theorem dX7_whyNot_1 : decode cX7_whyNot 1 = .ok (.aload_n 0, 1) := by decide +kernel
theorem dX7_whyNot_2 : decode cX7_whyNot 2 = .ok (.iload_n 1, 1) := by decide +kernel
theorem dX7_whyNot_3 : decode cX7_whyNot 3 = .ok (.iload_n 2, 1) := by decide +kernel
theorem dX7_whyNot_4 : decode cX7_whyNot 4 = .ok (.invokevirtual 370, 3) := by decide +kernel
theorem dX7_whyNot_7 : decode cX7_whyNot 7 = .ok (.invokevirtual 76, 3) := by decide +kernel
theorem dX7_whyNot_10 : decode cX7_whyNot 10 = .ok (.ifCond .eq 15, 3) := by decide +kernel
theorem dX7_whyNot_13 : decode cX7_whyNot 13 = .ok (.aload_n 0, 1) := by decide +kernel
theorem dX7_whyNot_14 : decode cX7_whyNot 14 = .ok (.iload_n 1, 1) := by decide +kernel
theorem dX7_whyNot_15 : decode cX7_whyNot 15 = .ok (.bipush 35, 2) := by decide +kernel
theorem dX7_whyNot_17 : decode cX7_whyNot 17 = .ok (.iload_n 2, 1) := by decide +kernel
theorem dX7_whyNot_18 : decode cX7_whyNot 18 = .ok (.iadd, 1) := by decide +kernel
theorem dX7_whyNot_19 : decode cX7_whyNot 19 = .ok (.invokevirtual 251, 3) := by decide +kernel
theorem dX7_whyNot_22 : decode cX7_whyNot 22 = .ok (.goto 4, 3) := by decide +kernel
theorem dX7_whyNot_25 : decode cX7_whyNot 25 = .ok (.iconst 0, 1) := by decide +kernel
theorem dX7_whyNot_26 : decode cX7_whyNot 26 = .ok (.ireturn, 1) := by decide +kernel
theorem dX7_dueFor_0 : decode cX7_dueFor 0 = .ok (.iconst 1, 1) := by decide +kernel
theorem dX7_dueFor_1 : decode cX7_dueFor 1 = .ok (.istore_n 2, 1) := by decide +kernel
theorem dX7_dueFor_2 : decode cX7_dueFor 2 = .ok (.aload_n 0, 1) := by decide +kernel
theorem dX7_dueFor_3 : decode cX7_dueFor 3 = .ok (.iload_n 1, 1) := by decide +kernel
theorem dX7_dueFor_4 : decode cX7_dueFor 4 = .ok (.aload_n 0, 1) := by decide +kernel
theorem dX7_dueFor_5 : decode cX7_dueFor 5 = .ok (.getfield 20, 3) := by decide +kernel
theorem dX7_dueFor_8 : decode cX7_dueFor 8 = .ok (.iconst 1, 1) := by decide +kernel
theorem dX7_dueFor_9 : decode cX7_dueFor 9 = .ok (.iaload, 1) := by decide +kernel
theorem dX7_dueFor_10 : decode cX7_dueFor 10 = .ok (.iload_n 2, 1) := by decide +kernel
theorem dX7_dueFor_11 : decode cX7_dueFor 11 = .ok (.iadd, 1) := by decide +kernel
theorem dX7_dueFor_12 : decode cX7_dueFor 12 = .ok (.invokevirtual 276, 3) := by decide +kernel
theorem dX7_dueFor_15 : decode cX7_dueFor 15 = .ok (.ifCond .ne 9, 3) := by decide +kernel
theorem dX7_dueFor_18 : decode cX7_dueFor 18 = .ok (.iinc 2 1, 3) := by decide +kernel
theorem dX7_dueFor_21 : decode cX7_dueFor 21 = .ok (.goto (-19), 3) := by decide +kernel
theorem dX7_dueFor_24 : decode cX7_dueFor 24 = .ok (.iload_n 2, 1) := by decide +kernel
theorem dX7_dueFor_25 : decode cX7_dueFor 25 = .ok (.ireturn, 1) := by decide +kernel
theorem dX7_dueIn_0 : decode cX7_dueIn 0 = .ok (.aload_n 0, 1) := by decide +kernel
theorem dX7_dueIn_1 : decode cX7_dueIn 1 = .ok (.aload_n 0, 1) := by decide +kernel
theorem dX7_dueIn_2 : decode cX7_dueIn 2 = .ok (.iload_n 1, 1) := by decide +kernel
theorem dX7_dueIn_3 : decode cX7_dueIn 3 = .ok (.invokevirtual 341, 3) := by decide +kernel
theorem dX7_dueIn_6 : decode cX7_dueIn 6 = .ok (.invokevirtual 76, 3) := by decide +kernel
theorem dX7_dueIn_9 : decode cX7_dueIn 9 = .ok (.ifCond .eq 11, 3) := by decide +kernel
theorem dX7_dueIn_12 : decode cX7_dueIn 12 = .ok (.aload_n 0, 1) := by decide +kernel
theorem dX7_dueIn_13 : decode cX7_dueIn 13 = .ok (.iload_n 1, 1) := by decide +kernel
theorem dX7_dueIn_14 : decode cX7_dueIn 14 = .ok (.invokevirtual 373, 3) := by decide +kernel
theorem dX7_dueIn_17 : decode cX7_dueIn 17 = .ok (.goto 4, 3) := by decide +kernel
theorem dX7_dueIn_20 : decode cX7_dueIn 20 = .ok (.iconst 0, 1) := by decide +kernel
theorem dX7_dueIn_21 : decode cX7_dueIn 21 = .ok (.ireturn, 1) := by decide +kernel
theorem dX7_hidden_0 : decode cX7_hidden 0 = .ok (.aload_n 0, 1) := by decide +kernel
theorem dX7_hidden_1 : decode cX7_hidden 1 = .ok (.aload_n 0, 1) := by decide +kernel
theorem dX7_hidden_2 : decode cX7_hidden 2 = .ok (.iload_n 1, 1) := by decide +kernel
theorem dX7_hidden_3 : decode cX7_hidden 3 = .ok (.invokevirtual 341, 3) := by decide +kernel
theorem dX7_hidden_6 : decode cX7_hidden 6 = .ok (.invokevirtual 76, 3) := by decide +kernel
theorem dX7_hidden_9 : decode cX7_hidden 9 = .ok (.ifCond .ne 5, 3) := by decide +kernel
theorem dX7_hidden_12 : decode cX7_hidden 12 = .ok (.iconst 0, 1) := by decide +kernel
theorem dX7_hidden_13 : decode cX7_hidden 13 = .ok (.ireturn, 1) := by decide +kernel
theorem dX7_hidden_14 : decode cX7_hidden 14 = .ok (.iconst 0, 1) := by decide +kernel
theorem dX7_hidden_15 : decode cX7_hidden 15 = .ok (.istore_n 2, 1) := by decide +kernel
theorem dX7_hidden_16 : decode cX7_hidden 16 = .ok (.iconst 0, 1) := by decide +kernel
theorem dX7_hidden_17 : decode cX7_hidden 17 = .ok (.istore_n 3, 1) := by decide +kernel
theorem dX7_hidden_18 : decode cX7_hidden 18 = .ok (.iload_n 3, 1) := by decide +kernel
theorem dX7_hidden_19 : decode cX7_hidden 19 = .ok (.aload_n 0, 1) := by decide +kernel
theorem dX7_hidden_20 : decode cX7_hidden 20 = .ok (.getfield 20, 3) := by decide +kernel
theorem dX7_hidden_23 : decode cX7_hidden 23 = .ok (.iconst 0, 1) := by decide +kernel
theorem dX7_hidden_24 : decode cX7_hidden 24 = .ok (.iaload, 1) := by decide +kernel
theorem dX7_hidden_25 : decode cX7_hidden 25 = .ok (.if_icmp .ge 64, 3) := by decide +kernel
theorem dX7_hidden_28 : decode cX7_hidden 28 = .ok (.iconst 0, 1) := by decide +kernel
theorem dX7_hidden_29 : decode cX7_hidden 29 = .ok (.istore 4, 2) := by decide +kernel
theorem dX7_hidden_31 : decode cX7_hidden 31 = .ok (.iload 4, 2) := by decide +kernel
theorem dX7_hidden_33 : decode cX7_hidden 33 = .ok (.iload_n 3, 1) := by decide +kernel
theorem dX7_hidden_34 : decode cX7_hidden 34 = .ok (.if_icmp .ge 49, 3) := by decide +kernel
theorem dX7_hidden_37 : decode cX7_hidden 37 = .ok (.iload_n 2, 1) := by decide +kernel
theorem dX7_hidden_38 : decode cX7_hidden 38 = .ok (.aload_n 0, 1) := by decide +kernel
theorem dX7_hidden_39 : decode cX7_hidden 39 = .ok (.iload_n 1, 1) := by decide +kernel
theorem dX7_hidden_40 : decode cX7_hidden 40 = .ok (.iload 4, 2) := by decide +kernel
theorem dX7_hidden_42 : decode cX7_hidden 42 = .ok (.invokevirtual 208, 3) := by decide +kernel
theorem dX7_hidden_45 : decode cX7_hidden 45 = .ok (.ifCond .eq 26, 3) := by decide +kernel
theorem dX7_hidden_48 : decode cX7_hidden 48 = .ok (.aload_n 0, 1) := by decide +kernel
theorem dX7_hidden_49 : decode cX7_hidden 49 = .ok (.iload_n 1, 1) := by decide +kernel
theorem dX7_hidden_50 : decode cX7_hidden 50 = .ok (.iload_n 3, 1) := by decide +kernel
theorem dX7_hidden_51 : decode cX7_hidden 51 = .ok (.invokevirtual 208, 3) := by decide +kernel
theorem dX7_hidden_54 : decode cX7_hidden 54 = .ok (.ifCond .eq 17, 3) := by decide +kernel
theorem dX7_hidden_57 : decode cX7_hidden 57 = .ok (.aload_n 0, 1) := by decide +kernel
theorem dX7_hidden_58 : decode cX7_hidden 58 = .ok (.iload 4, 2) := by decide +kernel
theorem dX7_hidden_60 : decode cX7_hidden 60 = .ok (.iload_n 3, 1) := by decide +kernel
theorem dX7_hidden_61 : decode cX7_hidden 61 = .ok (.invokevirtual 208, 3) := by decide +kernel
theorem dX7_hidden_64 : decode cX7_hidden 64 = .ok (.ifCond .ne 7, 3) := by decide +kernel
theorem dX7_hidden_67 : decode cX7_hidden 67 = .ok (.iconst 1, 1) := by decide +kernel
theorem dX7_hidden_68 : decode cX7_hidden 68 = .ok (.goto 4, 3) := by decide +kernel
theorem dX7_hidden_71 : decode cX7_hidden 71 = .ok (.iconst 0, 1) := by decide +kernel
theorem dX7_hidden_72 : decode cX7_hidden 72 = .ok (.invokestatic 69, 3) := by decide +kernel
theorem dX7_hidden_75 : decode cX7_hidden 75 = .ok (.iadd, 1) := by decide +kernel
theorem dX7_hidden_76 : decode cX7_hidden 76 = .ok (.istore_n 2, 1) := by decide +kernel
theorem dX7_hidden_77 : decode cX7_hidden 77 = .ok (.iinc 4 1, 3) := by decide +kernel
theorem dX7_hidden_80 : decode cX7_hidden 80 = .ok (.goto (-49), 3) := by decide +kernel
theorem dX7_hidden_83 : decode cX7_hidden 83 = .ok (.iinc 3 1, 3) := by decide +kernel
theorem dX7_hidden_86 : decode cX7_hidden 86 = .ok (.goto (-68), 3) := by decide +kernel
theorem dX7_hidden_89 : decode cX7_hidden 89 = .ok (.iload_n 2, 1) := by decide +kernel
theorem dX7_hidden_90 : decode cX7_hidden 90 = .ok (.ireturn, 1) := by decide +kernel
theorem dX7_spread_0 : decode cX7_spread 0 = .ok (.iload_n 1, 1) := by decide +kernel
theorem dX7_spread_1 : decode cX7_spread 1 = .ok (.istore_n 2, 1) := by decide +kernel
theorem dX7_spread_2 : decode cX7_spread 2 = .ok (.iconst 0, 1) := by decide +kernel
theorem dX7_spread_3 : decode cX7_spread 3 = .ok (.istore_n 3, 1) := by decide +kernel
theorem dX7_spread_4 : decode cX7_spread 4 = .ok (.iload_n 3, 1) := by decide +kernel
theorem dX7_spread_5 : decode cX7_spread 5 = .ok (.aload_n 0, 1) := by decide +kernel
theorem dX7_spread_6 : decode cX7_spread 6 = .ok (.getfield 20, 3) := by decide +kernel
theorem dX7_spread_9 : decode cX7_spread 9 = .ok (.iconst 0, 1) := by decide +kernel
theorem dX7_spread_10 : decode cX7_spread 10 = .ok (.iaload, 1) := by decide +kernel
theorem dX7_spread_11 : decode cX7_spread 11 = .ok (.if_icmp .ge 29, 3) := by decide +kernel
theorem dX7_spread_14 : decode cX7_spread 14 = .ok (.iload_n 1, 1) := by decide +kernel
theorem dX7_spread_15 : decode cX7_spread 15 = .ok (.iload_n 3, 1) := by decide +kernel
theorem dX7_spread_16 : decode cX7_spread 16 = .ok (.invokestatic 180, 3) := by decide +kernel
theorem dX7_spread_19 : decode cX7_spread 19 = .ok (.ifCond .eq 15, 3) := by decide +kernel
theorem dX7_spread_22 : decode cX7_spread 22 = .ok (.iload_n 2, 1) := by decide +kernel
theorem dX7_spread_23 : decode cX7_spread 23 = .ok (.aload_n 0, 1) := by decide +kernel
theorem dX7_spread_24 : decode cX7_spread 24 = .ok (.getfield 20, 3) := by decide +kernel
theorem dX7_spread_27 : decode cX7_spread 27 = .ok (.bipush 13, 2) := by decide +kernel
theorem dX7_spread_29 : decode cX7_spread 29 = .ok (.iload_n 3, 1) := by decide +kernel
theorem dX7_spread_30 : decode cX7_spread 30 = .ok (.iadd, 1) := by decide +kernel
theorem dX7_spread_31 : decode cX7_spread 31 = .ok (.iaload, 1) := by decide +kernel
theorem dX7_spread_32 : decode cX7_spread 32 = .ok (.ior, 1) := by decide +kernel
theorem dX7_spread_33 : decode cX7_spread 33 = .ok (.istore_n 2, 1) := by decide +kernel
theorem dX7_spread_34 : decode cX7_spread 34 = .ok (.iinc 3 1, 3) := by decide +kernel
theorem dX7_spread_37 : decode cX7_spread 37 = .ok (.goto (-33), 3) := by decide +kernel
theorem dX7_spread_40 : decode cX7_spread 40 = .ok (.iload_n 2, 1) := by decide +kernel
theorem dX7_spread_41 : decode cX7_spread 41 = .ok (.ireturn, 1) := by decide +kernel
theorem dX7_hops_0 : decode cX7_hops 0 = .ok (.aload_n 0, 1) := by decide +kernel
theorem dX7_hops_1 : decode cX7_hops 1 = .ok (.aload_n 0, 1) := by decide +kernel
theorem dX7_hops_2 : decode cX7_hops 2 = .ok (.iload_n 1, 1) := by decide +kernel
theorem dX7_hops_3 : decode cX7_hops 3 = .ok (.iload_n 2, 1) := by decide +kernel
theorem dX7_hops_4 : decode cX7_hops 4 = .ok (.invokevirtual 370, 3) := by decide +kernel
theorem dX7_hops_7 : decode cX7_hops 7 = .ok (.invokevirtual 76, 3) := by decide +kernel
theorem dX7_hops_10 : decode cX7_hops 10 = .ok (.ifCond .ne 5, 3) := by decide +kernel
theorem dX7_hops_13 : decode cX7_hops 13 = .ok (.iconst 0, 1) := by decide +kernel
theorem dX7_hops_14 : decode cX7_hops 14 = .ok (.ireturn, 1) := by decide +kernel
theorem dX7_hops_15 : decode cX7_hops 15 = .ok (.iconst 1, 1) := by decide +kernel
theorem dX7_hops_16 : decode cX7_hops 16 = .ok (.iload_n 1, 1) := by decide +kernel
theorem dX7_hops_17 : decode cX7_hops 17 = .ok (.ishl, 1) := by decide +kernel
theorem dX7_hops_18 : decode cX7_hops 18 = .ok (.istore_n 3, 1) := by decide +kernel
theorem dX7_hops_19 : decode cX7_hops 19 = .ok (.iconst 0, 1) := by decide +kernel
theorem dX7_hops_20 : decode cX7_hops 20 = .ok (.istore 4, 2) := by decide +kernel
theorem dX7_hops_22 : decode cX7_hops 22 = .ok (.iload 4, 2) := by decide +kernel
theorem dX7_hops_24 : decode cX7_hops 24 = .ok (.bipush 8, 2) := by decide +kernel
theorem dX7_hops_26 : decode cX7_hops 26 = .ok (.if_icmp .ge 26, 3) := by decide +kernel
theorem dX7_hops_29 : decode cX7_hops 29 = .ok (.iload_n 3, 1) := by decide +kernel
theorem dX7_hops_30 : decode cX7_hops 30 = .ok (.iload_n 2, 1) := by decide +kernel
theorem dX7_hops_31 : decode cX7_hops 31 = .ok (.invokestatic 180, 3) := by decide +kernel
theorem dX7_hops_34 : decode cX7_hops 34 = .ok (.ifCond .eq 6, 3) := by decide +kernel
theorem dX7_hops_37 : decode cX7_hops 37 = .ok (.iload 4, 2) := by decide +kernel
theorem dX7_hops_39 : decode cX7_hops 39 = .ok (.ireturn, 1) := by decide +kernel
theorem dX7_hops_40 : decode cX7_hops 40 = .ok (.aload_n 0, 1) := by decide +kernel
theorem dX7_hops_41 : decode cX7_hops 41 = .ok (.iload_n 3, 1) := by decide +kernel
theorem dX7_hops_42 : decode cX7_hops 42 = .ok (.invokevirtual 376, 3) := by decide +kernel
theorem dX7_hops_45 : decode cX7_hops 45 = .ok (.istore_n 3, 1) := by decide +kernel
theorem dX7_hops_46 : decode cX7_hops 46 = .ok (.iinc 4 1, 3) := by decide +kernel
theorem dX7_hops_49 : decode cX7_hops 49 = .ok (.goto (-27), 3) := by decide +kernel
theorem dX7_hops_52 : decode cX7_hops 52 = .ok (.iconst (-1), 1) := by decide +kernel
theorem dX7_hops_53 : decode cX7_hops 53 = .ok (.ireturn, 1) := by decide +kernel
theorem dX7_groupOf_0 : decode cX7_groupOf 0 = .ok (.iconst 1, 1) := by decide +kernel
theorem dX7_groupOf_1 : decode cX7_groupOf 1 = .ok (.iload_n 1, 1) := by decide +kernel
theorem dX7_groupOf_2 : decode cX7_groupOf 2 = .ok (.ishl, 1) := by decide +kernel
theorem dX7_groupOf_3 : decode cX7_groupOf 3 = .ok (.istore_n 2, 1) := by decide +kernel
theorem dX7_groupOf_4 : decode cX7_groupOf 4 = .ok (.iconst 0, 1) := by decide +kernel
theorem dX7_groupOf_5 : decode cX7_groupOf 5 = .ok (.istore_n 3, 1) := by decide +kernel
theorem dX7_groupOf_6 : decode cX7_groupOf 6 = .ok (.iload_n 3, 1) := by decide +kernel
theorem dX7_groupOf_7 : decode cX7_groupOf 7 = .ok (.bipush 8, 2) := by decide +kernel
theorem dX7_groupOf_9 : decode cX7_groupOf 9 = .ok (.if_icmp .ge 15, 3) := by decide +kernel
theorem dX7_groupOf_12 : decode cX7_groupOf 12 = .ok (.aload_n 0, 1) := by decide +kernel
theorem dX7_groupOf_13 : decode cX7_groupOf 13 = .ok (.iload_n 2, 1) := by decide +kernel
theorem dX7_groupOf_14 : decode cX7_groupOf 14 = .ok (.invokevirtual 376, 3) := by decide +kernel
theorem dX7_groupOf_17 : decode cX7_groupOf 17 = .ok (.istore_n 2, 1) := by decide +kernel
theorem dX7_groupOf_18 : decode cX7_groupOf 18 = .ok (.iinc 3 1, 3) := by decide +kernel
theorem dX7_groupOf_21 : decode cX7_groupOf 21 = .ok (.goto (-15), 3) := by decide +kernel
theorem dX7_groupOf_24 : decode cX7_groupOf 24 = .ok (.iload_n 2, 1) := by decide +kernel
theorem dX7_groupOf_25 : decode cX7_groupOf 25 = .ok (.ireturn, 1) := by decide +kernel
theorem dX7_groups_0 : decode cX7_groups 0 = .ok (.aload_n 0, 1) := by decide +kernel
theorem dX7_groups_1 : decode cX7_groups 1 = .ok (.iconst 0, 1) := by decide +kernel
theorem dX7_groups_2 : decode cX7_groups 2 = .ok (.putfield 66, 3) := by decide +kernel
theorem dX7_groups_5 : decode cX7_groups 5 = .ok (.iconst 0, 1) := by decide +kernel
theorem dX7_groups_6 : decode cX7_groups 6 = .ok (.istore_n 1, 1) := by decide +kernel
theorem dX7_groups_7 : decode cX7_groups 7 = .ok (.iconst 0, 1) := by decide +kernel
theorem dX7_groups_8 : decode cX7_groups 8 = .ok (.istore_n 2, 1) := by decide +kernel
theorem dX7_groups_9 : decode cX7_groups 9 = .ok (.iconst 0, 1) := by decide +kernel
theorem dX7_groups_10 : decode cX7_groups 10 = .ok (.istore_n 3, 1) := by decide +kernel
theorem dX7_groups_11 : decode cX7_groups 11 = .ok (.iload_n 3, 1) := by decide +kernel
theorem dX7_groups_12 : decode cX7_groups 12 = .ok (.aload_n 0, 1) := by decide +kernel
theorem dX7_groups_13 : decode cX7_groups 13 = .ok (.getfield 20, 3) := by decide +kernel
theorem dX7_groups_16 : decode cX7_groups 16 = .ok (.iconst 0, 1) := by decide +kernel
theorem dX7_groups_17 : decode cX7_groups 17 = .ok (.iaload, 1) := by decide +kernel
theorem dX7_groups_18 : decode cX7_groups 18 = .ok (.if_icmp .ge 36, 3) := by decide +kernel
theorem dX7_groups_21 : decode cX7_groups 21 = .ok (.iload_n 2, 1) := by decide +kernel
theorem dX7_groups_22 : decode cX7_groups 22 = .ok (.iload_n 1, 1) := by decide +kernel
theorem dX7_groups_23 : decode cX7_groups 23 = .ok (.iload_n 3, 1) := by decide +kernel
theorem dX7_groups_24 : decode cX7_groups 24 = .ok (.invokestatic 180, 3) := by decide +kernel
theorem dX7_groups_27 : decode cX7_groups 27 = .ok (.ifCond .ne 7, 3) := by decide +kernel
theorem dX7_groups_30 : decode cX7_groups 30 = .ok (.iconst 1, 1) := by decide +kernel
theorem dX7_groups_31 : decode cX7_groups 31 = .ok (.goto 4, 3) := by decide +kernel
theorem dX7_groups_34 : decode cX7_groups 34 = .ok (.iconst 0, 1) := by decide +kernel
theorem dX7_groups_35 : decode cX7_groups 35 = .ok (.invokestatic 69, 3) := by decide +kernel
theorem dX7_groups_38 : decode cX7_groups 38 = .ok (.iadd, 1) := by decide +kernel
theorem dX7_groups_39 : decode cX7_groups 39 = .ok (.istore_n 2, 1) := by decide +kernel
theorem dX7_groups_40 : decode cX7_groups 40 = .ok (.iload_n 1, 1) := by decide +kernel
theorem dX7_groups_41 : decode cX7_groups 41 = .ok (.aload_n 0, 1) := by decide +kernel
theorem dX7_groups_42 : decode cX7_groups 42 = .ok (.iload_n 3, 1) := by decide +kernel
theorem dX7_groups_43 : decode cX7_groups 43 = .ok (.invokevirtual 379, 3) := by decide +kernel
theorem dX7_groups_46 : decode cX7_groups 46 = .ok (.ior, 1) := by decide +kernel
theorem dX7_groups_47 : decode cX7_groups 47 = .ok (.istore_n 1, 1) := by decide +kernel
theorem dX7_groups_48 : decode cX7_groups 48 = .ok (.iinc 3 1, 3) := by decide +kernel
theorem dX7_groups_51 : decode cX7_groups 51 = .ok (.goto (-40), 3) := by decide +kernel
theorem dX7_groups_54 : decode cX7_groups 54 = .ok (.iload_n 2, 1) := by decide +kernel
theorem dX7_groups_55 : decode cX7_groups 55 = .ok (.ireturn, 1) := by decide +kernel
theorem dX7_ears_0 : decode cX7_ears 0 = .ok (.aload_n 0, 1) := by decide +kernel
theorem dX7_ears_1 : decode cX7_ears 1 = .ok (.aload_n 0, 1) := by decide +kernel
theorem dX7_ears_2 : decode cX7_ears 2 = .ok (.iload_n 1, 1) := by decide +kernel
theorem dX7_ears_3 : decode cX7_ears 3 = .ok (.invokevirtual 341, 3) := by decide +kernel
theorem dX7_ears_6 : decode cX7_ears 6 = .ok (.invokevirtual 76, 3) := by decide +kernel
theorem dX7_ears_9 : decode cX7_ears 9 = .ok (.ifCond .ne 5, 3) := by decide +kernel
theorem dX7_ears_12 : decode cX7_ears 12 = .ok (.iconst 0, 1) := by decide +kernel
theorem dX7_ears_13 : decode cX7_ears 13 = .ok (.ireturn, 1) := by decide +kernel
theorem dX7_ears_14 : decode cX7_ears 14 = .ok (.aload_n 0, 1) := by decide +kernel
theorem dX7_ears_15 : decode cX7_ears 15 = .ok (.invokevirtual 325, 3) := by decide +kernel
theorem dX7_ears_18 : decode cX7_ears 18 = .ok (.iconst 1, 1) := by decide +kernel
theorem dX7_ears_19 : decode cX7_ears 19 = .ok (.iload_n 1, 1) := by decide +kernel
theorem dX7_ears_20 : decode cX7_ears 20 = .ok (.ishl, 1) := by decide +kernel
theorem dX7_ears_21 : decode cX7_ears 21 = .ok (.iconst (-1), 1) := by decide +kernel
theorem dX7_ears_22 : decode cX7_ears 22 = .ok (.ixor, 1) := by decide +kernel
theorem dX7_ears_23 : decode cX7_ears 23 = .ok (.iand, 1) := by decide +kernel
theorem dX7_ears_24 : decode cX7_ears 24 = .ok (.istore_n 2, 1) := by decide +kernel
theorem dX7_ears_25 : decode cX7_ears 25 = .ok (.iconst 0, 1) := by decide +kernel
theorem dX7_ears_26 : decode cX7_ears 26 = .ok (.istore_n 3, 1) := by decide +kernel
theorem dX7_ears_27 : decode cX7_ears 27 = .ok (.iconst 0, 1) := by decide +kernel
theorem dX7_ears_28 : decode cX7_ears 28 = .ok (.istore 4, 2) := by decide +kernel
theorem dX7_ears_30 : decode cX7_ears 30 = .ok (.iload 4, 2) := by decide +kernel
theorem dX7_ears_32 : decode cX7_ears 32 = .ok (.aload_n 0, 1) := by decide +kernel
theorem dX7_ears_33 : decode cX7_ears 33 = .ok (.getfield 20, 3) := by decide +kernel
theorem dX7_ears_36 : decode cX7_ears 36 = .ok (.iconst 0, 1) := by decide +kernel
theorem dX7_ears_37 : decode cX7_ears 37 = .ok (.iaload, 1) := by decide +kernel
theorem dX7_ears_38 : decode cX7_ears 38 = .ok (.if_icmp .ge 72, 3) := by decide +kernel
theorem dX7_ears_41 : decode cX7_ears 41 = .ok (.iload 4, 2) := by decide +kernel
theorem dX7_ears_43 : decode cX7_ears 43 = .ok (.iload_n 1, 1) := by decide +kernel
theorem dX7_ears_44 : decode cX7_ears 44 = .ok (.if_icmp .eq 26, 3) := by decide +kernel
theorem dX7_ears_47 : decode cX7_ears 47 = .ok (.aload_n 0, 1) := by decide +kernel
theorem dX7_ears_48 : decode cX7_ears 48 = .ok (.iload_n 1, 1) := by decide +kernel
theorem dX7_ears_49 : decode cX7_ears 49 = .ok (.iload 4, 2) := by decide +kernel
theorem dX7_ears_51 : decode cX7_ears 51 = .ok (.invokevirtual 208, 3) := by decide +kernel
theorem dX7_ears_54 : decode cX7_ears 54 = .ok (.ifCond .eq 16, 3) := by decide +kernel
theorem dX7_ears_57 : decode cX7_ears 57 = .ok (.aload_n 0, 1) := by decide +kernel
theorem dX7_ears_58 : decode cX7_ears 58 = .ok (.iload 4, 2) := by decide +kernel
theorem dX7_ears_60 : decode cX7_ears 60 = .ok (.invokevirtual 307, 3) := by decide +kernel
theorem dX7_ears_63 : decode cX7_ears 63 = .ok (.ifCond .eq 7, 3) := by decide +kernel
theorem dX7_ears_66 : decode cX7_ears 66 = .ok (.iconst 1, 1) := by decide +kernel
theorem dX7_ears_67 : decode cX7_ears 67 = .ok (.goto 4, 3) := by decide +kernel
theorem dX7_ears_70 : decode cX7_ears 70 = .ok (.iconst 0, 1) := by decide +kernel
theorem dX7_ears_71 : decode cX7_ears 71 = .ok (.istore 5, 2) := by decide +kernel
theorem dX7_ears_73 : decode cX7_ears 73 = .ok (.iload_n 3, 1) := by decide +kernel
theorem dX7_ears_74 : decode cX7_ears 74 = .ok (.iload 5, 2) := by decide +kernel
theorem dX7_ears_76 : decode cX7_ears 76 = .ok (.ifCond .eq 25, 3) := by decide +kernel
theorem dX7_ears_79 : decode cX7_ears 79 = .ok (.aload_n 0, 1) := by decide +kernel
theorem dX7_ears_80 : decode cX7_ears 80 = .ok (.getfield 20, 3) := by decide +kernel
theorem dX7_ears_83 : decode cX7_ears 83 = .ok (.bipush 13, 2) := by decide +kernel
theorem dX7_ears_85 : decode cX7_ears 85 = .ok (.iload 4, 2) := by decide +kernel
theorem dX7_ears_87 : decode cX7_ears 87 = .ok (.iadd, 1) := by decide +kernel
theorem dX7_ears_88 : decode cX7_ears 88 = .ok (.iaload, 1) := by decide +kernel
theorem dX7_ears_89 : decode cX7_ears 89 = .ok (.iload_n 2, 1) := by decide +kernel
theorem dX7_ears_90 : decode cX7_ears 90 = .ok (.iand, 1) := by decide +kernel
theorem dX7_ears_91 : decode cX7_ears 91 = .ok (.ifCond .ne 10, 3) := by decide +kernel
theorem dX7_ears_94 : decode cX7_ears 94 = .ok (.iconst 1, 1) := by decide +kernel
theorem dX7_ears_95 : decode cX7_ears 95 = .ok (.iload 4, 2) := by decide +kernel
theorem dX7_ears_97 : decode cX7_ears 97 = .ok (.ishl, 1) := by decide +kernel
theorem dX7_ears_98 : decode cX7_ears 98 = .ok (.goto 4, 3) := by decide +kernel
theorem dX7_ears_101 : decode cX7_ears 101 = .ok (.iconst 0, 1) := by decide +kernel
theorem dX7_ears_102 : decode cX7_ears 102 = .ok (.ior, 1) := by decide +kernel
theorem dX7_ears_103 : decode cX7_ears 103 = .ok (.istore_n 3, 1) := by decide +kernel
theorem dX7_ears_104 : decode cX7_ears 104 = .ok (.iinc 4 1, 3) := by decide +kernel
theorem dX7_ears_107 : decode cX7_ears 107 = .ok (.goto (-77), 3) := by decide +kernel
theorem dX7_ears_110 : decode cX7_ears 110 = .ok (.iload_n 3, 1) := by decide +kernel
theorem dX7_ears_111 : decode cX7_ears 111 = .ok (.ireturn, 1) := by decide +kernel
theorem dX7_earliest_0 : decode cX7_earliest 0 = .ok (.aload_n 0, 1) := by decide +kernel
theorem dX7_earliest_1 : decode cX7_earliest 1 = .ok (.iconst 0, 1) := by decide +kernel
theorem dX7_earliest_2 : decode cX7_earliest 2 = .ok (.putfield 66, 3) := by decide +kernel
theorem dX7_earliest_5 : decode cX7_earliest 5 = .ok (.iconst (-1), 1) := by decide +kernel
theorem dX7_earliest_6 : decode cX7_earliest 6 = .ok (.istore_n 1, 1) := by decide +kernel
theorem dX7_earliest_7 : decode cX7_earliest 7 = .ok (.iconst 0, 1) := by decide +kernel
theorem dX7_earliest_8 : decode cX7_earliest 8 = .ok (.istore_n 2, 1) := by decide +kernel
theorem dX7_earliest_9 : decode cX7_earliest 9 = .ok (.iload_n 2, 1) := by decide +kernel
theorem dX7_earliest_10 : decode cX7_earliest 10 = .ok (.aload_n 0, 1) := by decide +kernel
theorem dX7_earliest_11 : decode cX7_earliest 11 = .ok (.getfield 20, 3) := by decide +kernel
theorem dX7_earliest_14 : decode cX7_earliest 14 = .ok (.iconst 0, 1) := by decide +kernel
theorem dX7_earliest_15 : decode cX7_earliest 15 = .ok (.iaload, 1) := by decide +kernel
theorem dX7_earliest_16 : decode cX7_earliest 16 = .ok (.if_icmp .ge 29, 3) := by decide +kernel
theorem dX7_earliest_19 : decode cX7_earliest 19 = .ok (.iload_n 1, 1) := by decide +kernel
theorem dX7_earliest_20 : decode cX7_earliest 20 = .ok (.iconst (-1), 1) := by decide +kernel
theorem dX7_earliest_21 : decode cX7_earliest 21 = .ok (.if_icmp .eq 16, 3) := by decide +kernel
theorem dX7_earliest_24 : decode cX7_earliest 24 = .ok (.aload_n 0, 1) := by decide +kernel
theorem dX7_earliest_25 : decode cX7_earliest 25 = .ok (.iload_n 2, 1) := by decide +kernel
theorem dX7_earliest_26 : decode cX7_earliest 26 = .ok (.invokevirtual 373, 3) := by decide +kernel
theorem dX7_earliest_29 : decode cX7_earliest 29 = .ok (.aload_n 0, 1) := by decide +kernel
theorem dX7_earliest_30 : decode cX7_earliest 30 = .ok (.iload_n 1, 1) := by decide +kernel
theorem dX7_earliest_31 : decode cX7_earliest 31 = .ok (.invokevirtual 373, 3) := by decide +kernel
theorem dX7_earliest_34 : decode cX7_earliest 34 = .ok (.if_icmp .ge 5, 3) := by decide +kernel
theorem dX7_earliest_37 : decode cX7_earliest 37 = .ok (.iload_n 2, 1) := by decide +kernel
theorem dX7_earliest_38 : decode cX7_earliest 38 = .ok (.istore_n 1, 1) := by decide +kernel
theorem dX7_earliest_39 : decode cX7_earliest 39 = .ok (.iinc 2 1, 3) := by decide +kernel
theorem dX7_earliest_42 : decode cX7_earliest 42 = .ok (.goto (-33), 3) := by decide +kernel
theorem dX7_earliest_45 : decode cX7_earliest 45 = .ok (.iload_n 1, 1) := by decide +kernel
theorem dX7_earliest_46 : decode cX7_earliest 46 = .ok (.ireturn, 1) := by decide +kernel
theorem dX7_window_0 : decode cX7_window 0 = .ok (.aload_n 0, 1) := by decide +kernel
theorem dX7_window_1 : decode cX7_window 1 = .ok (.aload_n 0, 1) := by decide +kernel
theorem dX7_window_2 : decode cX7_window 2 = .ok (.iload_n 1, 1) := by decide +kernel
theorem dX7_window_3 : decode cX7_window 3 = .ok (.invokevirtual 341, 3) := by decide +kernel
theorem dX7_window_6 : decode cX7_window 6 = .ok (.invokevirtual 76, 3) := by decide +kernel
theorem dX7_window_9 : decode cX7_window 9 = .ok (.ifCond .eq 11, 3) := by decide +kernel
theorem dX7_window_12 : decode cX7_window 12 = .ok (.aload_n 0, 1) := by decide +kernel
theorem dX7_window_13 : decode cX7_window 13 = .ok (.iload_n 1, 1) := by decide +kernel
theorem dX7_window_14 : decode cX7_window 14 = .ok (.invokevirtual 267, 3) := by decide +kernel
theorem dX7_window_17 : decode cX7_window 17 = .ok (.goto 4, 3) := by decide +kernel
theorem dX7_window_20 : decode cX7_window 20 = .ok (.iconst 0, 1) := by decide +kernel
theorem dX7_window_21 : decode cX7_window 21 = .ok (.ireturn, 1) := by decide +kernel
theorem dX7_leaves_0 : decode cX7_leaves 0 = .ok (.aload_n 0, 1) := by decide +kernel
theorem dX7_leaves_1 : decode cX7_leaves 1 = .ok (.getfield 20, 3) := by decide +kernel
theorem dX7_leaves_4 : decode cX7_leaves 4 = .ok (.iconst 0, 1) := by decide +kernel
theorem dX7_leaves_5 : decode cX7_leaves 5 = .ok (.aload_n 0, 1) := by decide +kernel
theorem dX7_leaves_6 : decode cX7_leaves 6 = .ok (.getfield 29, 3) := by decide +kernel
theorem dX7_leaves_9 : decode cX7_leaves 9 = .ok (.iconst 0, 1) := by decide +kernel
theorem dX7_leaves_10 : decode cX7_leaves 10 = .ok (.invokestatic 152, 3) := by decide +kernel
theorem dX7_leaves_13 : decode cX7_leaves 13 = .ok (.return_, 1) := by decide +kernel
theorem dX7_comesBack_0 : decode cX7_comesBack 0 = .ok (.aload_n 0, 1) := by decide +kernel
theorem dX7_comesBack_1 : decode cX7_comesBack 1 = .ok (.getfield 29, 3) := by decide +kernel
theorem dX7_comesBack_4 : decode cX7_comesBack 4 = .ok (.iconst 0, 1) := by decide +kernel
theorem dX7_comesBack_5 : decode cX7_comesBack 5 = .ok (.aload_n 0, 1) := by decide +kernel
theorem dX7_comesBack_6 : decode cX7_comesBack 6 = .ok (.getfield 20, 3) := by decide +kernel
theorem dX7_comesBack_9 : decode cX7_comesBack 9 = .ok (.iconst 0, 1) := by decide +kernel
theorem dX7_comesBack_10 : decode cX7_comesBack 10 = .ok (.invokestatic 152, 3) := by decide +kernel
theorem dX7_comesBack_13 : decode cX7_comesBack 13 = .ok (.iload_n 1, 1) := by decide +kernel
theorem dX7_comesBack_14 : decode cX7_comesBack 14 = .ok (.ireturn, 1) := by decide +kernel
theorem dX7_areSlots_0 : decode cX7_areSlots 0 = .ok (.iload_n 0, 1) := by decide +kernel
theorem dX7_areSlots_1 : decode cX7_areSlots 1 = .ok (.i2l, 1) := by decide +kernel
theorem dX7_areSlots_2 : decode cX7_areSlots 2 = .ok (.lconst 0, 1) := by decide +kernel
theorem dX7_areSlots_3 : decode cX7_areSlots 3 = .ok (.ldc2_w 382, 3) := by decide +kernel
theorem dX7_areSlots_6 : decode cX7_areSlots 6 = .ok (.invokestatic 84, 3) := by decide +kernel
theorem dX7_areSlots_9 : decode cX7_areSlots 9 = .ok (.ireturn, 1) := by decide +kernel
theorem dX7_cellIn_0 : decode cX7_cellIn 0 = .ok (.aload_n 0, 1) := by decide +kernel
theorem dX7_cellIn_1 : decode cX7_cellIn 1 = .ok (.invokevirtual 384, 3) := by decide +kernel
theorem dX7_cellIn_4 : decode cX7_cellIn 4 = .ok (.aload_n 0, 1) := by decide +kernel
theorem dX7_cellIn_5 : decode cX7_cellIn 5 = .ok (.iload_n 3, 1) := by decide +kernel
theorem dX7_cellIn_6 : decode cX7_cellIn 6 = .ok (.invokevirtual 387, 3) := by decide +kernel
theorem dX7_cellIn_9 : decode cX7_cellIn 9 = .ok (.istore 4, 2) := by decide +kernel
theorem dX7_cellIn_11 : decode cX7_cellIn 11 = .ok (.aload_n 0, 1) := by decide +kernel
theorem dX7_cellIn_12 : decode cX7_cellIn 12 = .ok (.aload_n 0, 1) := by decide +kernel
theorem dX7_cellIn_13 : decode cX7_cellIn 13 = .ok (.iload_n 1, 1) := by decide +kernel
theorem dX7_cellIn_14 : decode cX7_cellIn 14 = .ok (.iload_n 2, 1) := by decide +kernel
theorem dX7_cellIn_15 : decode cX7_cellIn 15 = .ok (.invokevirtual 251, 3) := by decide +kernel
theorem dX7_cellIn_18 : decode cX7_cellIn 18 = .ok (.invokevirtual 390, 3) := by decide +kernel
theorem dX7_cellIn_21 : decode cX7_cellIn 21 = .ok (.ireturn, 1) := by decide +kernel
theorem dX7_stateIn_0 : decode cX7_stateIn 0 = .ok (.aload_n 0, 1) := by decide +kernel
theorem dX7_stateIn_1 : decode cX7_stateIn 1 = .ok (.aload_n 0, 1) := by decide +kernel
theorem dX7_stateIn_2 : decode cX7_stateIn 2 = .ok (.iload_n 1, 1) := by decide +kernel
theorem dX7_stateIn_3 : decode cX7_stateIn 3 = .ok (.invokevirtual 341, 3) := by decide +kernel
theorem dX7_stateIn_6 : decode cX7_stateIn 6 = .ok (.iload_n 2, 1) := by decide +kernel
theorem dX7_stateIn_7 : decode cX7_stateIn 7 = .ok (.invokestatic 393, 3) := by decide +kernel
theorem dX7_stateIn_10 : decode cX7_stateIn 10 = .ok (.invokevirtual 354, 3) := by decide +kernel
theorem dX7_stateIn_13 : decode cX7_stateIn 13 = .ok (.ifCond .eq 13, 3) := by decide +kernel
theorem dX7_stateIn_16 : decode cX7_stateIn 16 = .ok (.aload_n 0, 1) := by decide +kernel
theorem dX7_stateIn_17 : decode cX7_stateIn 17 = .ok (.iload_n 1, 1) := by decide +kernel
theorem dX7_stateIn_18 : decode cX7_stateIn 18 = .ok (.iconst 5, 1) := by decide +kernel
theorem dX7_stateIn_19 : decode cX7_stateIn 19 = .ok (.iload_n 2, 1) := by decide +kernel
theorem dX7_stateIn_20 : decode cX7_stateIn 20 = .ok (.invokevirtual 396, 3) := by decide +kernel
theorem dX7_stateIn_23 : decode cX7_stateIn 23 = .ok (.goto 4, 3) := by decide +kernel
theorem dX7_stateIn_26 : decode cX7_stateIn 26 = .ok (.iconst 0, 1) := by decide +kernel
theorem dX7_stateIn_27 : decode cX7_stateIn 27 = .ok (.ireturn, 1) := by decide +kernel
theorem dX7_energyIn_0 : decode cX7_energyIn 0 = .ok (.aload_n 0, 1) := by decide +kernel
theorem dX7_energyIn_1 : decode cX7_energyIn 1 = .ok (.aload_n 0, 1) := by decide +kernel
theorem dX7_energyIn_2 : decode cX7_energyIn 2 = .ok (.iload_n 1, 1) := by decide +kernel
theorem dX7_energyIn_3 : decode cX7_energyIn 3 = .ok (.invokevirtual 341, 3) := by decide +kernel
theorem dX7_energyIn_6 : decode cX7_energyIn 6 = .ok (.iload_n 2, 1) := by decide +kernel
theorem dX7_energyIn_7 : decode cX7_energyIn 7 = .ok (.invokestatic 393, 3) := by decide +kernel
theorem dX7_energyIn_10 : decode cX7_energyIn 10 = .ok (.invokevirtual 354, 3) := by decide +kernel
theorem dX7_energyIn_13 : decode cX7_energyIn 13 = .ok (.ifCond .eq 13, 3) := by decide +kernel
theorem dX7_energyIn_16 : decode cX7_energyIn 16 = .ok (.aload_n 0, 1) := by decide +kernel
theorem dX7_energyIn_17 : decode cX7_energyIn 17 = .ok (.iload_n 1, 1) := by decide +kernel
theorem dX7_energyIn_18 : decode cX7_energyIn 18 = .ok (.iconst 4, 1) := by decide +kernel
theorem dX7_energyIn_19 : decode cX7_energyIn 19 = .ok (.iload_n 2, 1) := by decide +kernel
theorem dX7_energyIn_20 : decode cX7_energyIn 20 = .ok (.invokevirtual 396, 3) := by decide +kernel
theorem dX7_energyIn_23 : decode cX7_energyIn 23 = .ok (.goto 4, 3) := by decide +kernel
theorem dX7_energyIn_26 : decode cX7_energyIn 26 = .ok (.iconst 0, 1) := by decide +kernel
theorem dX7_energyIn_27 : decode cX7_energyIn 27 = .ok (.ireturn, 1) := by decide +kernel
theorem dX7_collisionsBy_0 : decode cX7_collisionsBy 0 = .ok (.aload_n 0, 1) := by decide +kernel
theorem dX7_collisionsBy_1 : decode cX7_collisionsBy 1 = .ok (.getfield 20, 3) := by decide +kernel
theorem dX7_collisionsBy_4 : decode cX7_collisionsBy 4 = .ok (.bipush 6, 2) := by decide +kernel
theorem dX7_collisionsBy_6 : decode cX7_collisionsBy 6 = .ok (.iaload, 1) := by decide +kernel
theorem dX7_collisionsBy_7 : decode cX7_collisionsBy 7 = .ok (.istore_n 2, 1) := by decide +kernel
theorem dX7_collisionsBy_8 : decode cX7_collisionsBy 8 = .ok (.aload_n 0, 1) := by decide +kernel
theorem dX7_collisionsBy_9 : decode cX7_collisionsBy 9 = .ok (.iload_n 1, 1) := by decide +kernel
theorem dX7_collisionsBy_10 : decode cX7_collisionsBy 10 = .ok (.invokevirtual 387, 3) := by decide +kernel
theorem dX7_collisionsBy_13 : decode cX7_collisionsBy 13 = .ok (.istore_n 3, 1) := by decide +kernel
theorem dX7_collisionsBy_14 : decode cX7_collisionsBy 14 = .ok (.aload_n 0, 1) := by decide +kernel
theorem dX7_collisionsBy_15 : decode cX7_collisionsBy 15 = .ok (.getfield 20, 3) := by decide +kernel
theorem dX7_collisionsBy_18 : decode cX7_collisionsBy 18 = .ok (.bipush 6, 2) := by decide +kernel
theorem dX7_collisionsBy_20 : decode cX7_collisionsBy 20 = .ok (.iaload, 1) := by decide +kernel
theorem dX7_collisionsBy_21 : decode cX7_collisionsBy 21 = .ok (.iload_n 2, 1) := by decide +kernel
theorem dX7_collisionsBy_22 : decode cX7_collisionsBy 22 = .ok (.isub, 1) := by decide +kernel
theorem dX7_collisionsBy_23 : decode cX7_collisionsBy 23 = .ok (.ireturn, 1) := by decide +kernel
theorem dX7_collisionsIn_0 : decode cX7_collisionsIn 0 = .ok (.aload_n 0, 1) := by decide +kernel
theorem dX7_collisionsIn_1 : decode cX7_collisionsIn 1 = .ok (.iload_n 1, 1) := by decide +kernel
theorem dX7_collisionsIn_2 : decode cX7_collisionsIn 2 = .ok (.invokestatic 393, 3) := by decide +kernel
theorem dX7_collisionsIn_5 : decode cX7_collisionsIn 5 = .ok (.invokevirtual 76, 3) := by decide +kernel
theorem dX7_collisionsIn_8 : decode cX7_collisionsIn 8 = .ok (.ifCond .ne 5, 3) := by decide +kernel
theorem dX7_collisionsIn_11 : decode cX7_collisionsIn 11 = .ok (.iconst 0, 1) := by decide +kernel
theorem dX7_collisionsIn_12 : decode cX7_collisionsIn 12 = .ok (.ireturn, 1) := by decide +kernel
theorem dX7_collisionsIn_13 : decode cX7_collisionsIn 13 = .ok (.aload_n 0, 1) := by decide +kernel
theorem dX7_collisionsIn_14 : decode cX7_collisionsIn 14 = .ok (.invokevirtual 384, 3) := by decide +kernel
theorem dX7_collisionsIn_17 : decode cX7_collisionsIn 17 = .ok (.aload_n 0, 1) := by decide +kernel
theorem dX7_collisionsIn_18 : decode cX7_collisionsIn 18 = .ok (.aload_n 0, 1) := by decide +kernel
theorem dX7_collisionsIn_19 : decode cX7_collisionsIn 19 = .ok (.iload_n 1, 1) := by decide +kernel
theorem dX7_collisionsIn_20 : decode cX7_collisionsIn 20 = .ok (.invokevirtual 399, 3) := by decide +kernel
theorem dX7_collisionsIn_23 : decode cX7_collisionsIn 23 = .ok (.invokevirtual 390, 3) := by decide +kernel
theorem dX7_collisionsIn_26 : decode cX7_collisionsIn 26 = .ok (.ireturn, 1) := by decide +kernel
theorem dX7_knowsIn_0 : decode cX7_knowsIn 0 = .ok (.aload_n 0, 1) := by decide +kernel
theorem dX7_knowsIn_1 : decode cX7_knowsIn 1 = .ok (.aload_n 0, 1) := by decide +kernel
theorem dX7_knowsIn_2 : decode cX7_knowsIn 2 = .ok (.iload_n 1, 1) := by decide +kernel
theorem dX7_knowsIn_3 : decode cX7_knowsIn 3 = .ok (.iload_n 2, 1) := by decide +kernel
theorem dX7_knowsIn_4 : decode cX7_knowsIn 4 = .ok (.invokevirtual 370, 3) := by decide +kernel
theorem dX7_knowsIn_7 : decode cX7_knowsIn 7 = .ok (.invokevirtual 76, 3) := by decide +kernel
theorem dX7_knowsIn_10 : decode cX7_knowsIn 10 = .ok (.ifCond .ne 5, 3) := by decide +kernel
theorem dX7_knowsIn_13 : decode cX7_knowsIn 13 = .ok (.iconst 0, 1) := by decide +kernel
theorem dX7_knowsIn_14 : decode cX7_knowsIn 14 = .ok (.ireturn, 1) := by decide +kernel
theorem dX7_knowsIn_15 : decode cX7_knowsIn 15 = .ok (.aload_n 0, 1) := by decide +kernel
theorem dX7_knowsIn_16 : decode cX7_knowsIn 16 = .ok (.invokevirtual 384, 3) := by decide +kernel
theorem dX7_knowsIn_19 : decode cX7_knowsIn 19 = .ok (.iconst 0, 1) := by decide +kernel
theorem dX7_knowsIn_20 : decode cX7_knowsIn 20 = .ok (.istore_n 3, 1) := by decide +kernel
theorem dX7_knowsIn_21 : decode cX7_knowsIn 21 = .ok (.iload_n 3, 1) := by decide +kernel
theorem dX7_knowsIn_22 : decode cX7_knowsIn 22 = .ok (.sipush 300, 3) := by decide +kernel
theorem dX7_knowsIn_25 : decode cX7_knowsIn 25 = .ok (.if_icmp .ge 22, 3) := by decide +kernel
theorem dX7_knowsIn_28 : decode cX7_knowsIn 28 = .ok (.aload_n 0, 1) := by decide +kernel
theorem dX7_knowsIn_29 : decode cX7_knowsIn 29 = .ok (.iload_n 1, 1) := by decide +kernel
theorem dX7_knowsIn_30 : decode cX7_knowsIn 30 = .ok (.iload_n 2, 1) := by decide +kernel
theorem dX7_knowsIn_31 : decode cX7_knowsIn 31 = .ok (.invokevirtual 254, 3) := by decide +kernel
theorem dX7_knowsIn_34 : decode cX7_knowsIn 34 = .ok (.ifCond .ne 13, 3) := by decide +kernel
theorem dX7_knowsIn_37 : decode cX7_knowsIn 37 = .ok (.aload_n 0, 1) := by decide +kernel
theorem dX7_knowsIn_38 : decode cX7_knowsIn 38 = .ok (.invokevirtual 338, 3) := by decide +kernel
theorem dX7_knowsIn_41 : decode cX7_knowsIn 41 = .ok (.iinc 3 1, 3) := by decide +kernel
theorem dX7_knowsIn_44 : decode cX7_knowsIn 44 = .ok (.goto (-23), 3) := by decide +kernel
theorem dX7_knowsIn_47 : decode cX7_knowsIn 47 = .ok (.aload_n 0, 1) := by decide +kernel
theorem dX7_knowsIn_48 : decode cX7_knowsIn 48 = .ok (.aload_n 0, 1) := by decide +kernel
theorem dX7_knowsIn_49 : decode cX7_knowsIn 49 = .ok (.iload_n 1, 1) := by decide +kernel
theorem dX7_knowsIn_50 : decode cX7_knowsIn 50 = .ok (.iload_n 2, 1) := by decide +kernel
theorem dX7_knowsIn_51 : decode cX7_knowsIn 51 = .ok (.invokevirtual 254, 3) := by decide +kernel
theorem dX7_knowsIn_54 : decode cX7_knowsIn 54 = .ok (.ifCond .eq 7, 3) := by decide +kernel
theorem dX7_knowsIn_57 : decode cX7_knowsIn 57 = .ok (.iload_n 3, 1) := by decide +kernel
theorem dX7_knowsIn_58 : decode cX7_knowsIn 58 = .ok (.goto 4, 3) := by decide +kernel
theorem dX7_knowsIn_61 : decode cX7_knowsIn 61 = .ok (.iconst (-1), 1) := by decide +kernel
theorem dX7_knowsIn_62 : decode cX7_knowsIn 62 = .ok (.invokevirtual 390, 3) := by decide +kernel
theorem dX7_knowsIn_65 : decode cX7_knowsIn 65 = .ok (.ireturn, 1) := by decide +kernel
theorem dX7_allKnow_0 : decode cX7_allKnow 0 = .ok (.iconst 1, 1) := by decide +kernel
theorem dX7_allKnow_1 : decode cX7_allKnow 1 = .ok (.istore_n 1, 1) := by decide +kernel
theorem dX7_allKnow_2 : decode cX7_allKnow 2 = .ok (.iconst 0, 1) := by decide +kernel
theorem dX7_allKnow_3 : decode cX7_allKnow 3 = .ok (.istore_n 2, 1) := by decide +kernel
theorem dX7_allKnow_4 : decode cX7_allKnow 4 = .ok (.iload_n 2, 1) := by decide +kernel
theorem dX7_allKnow_5 : decode cX7_allKnow 5 = .ok (.aload_n 0, 1) := by decide +kernel
theorem dX7_allKnow_6 : decode cX7_allKnow 6 = .ok (.getfield 20, 3) := by decide +kernel
theorem dX7_allKnow_9 : decode cX7_allKnow 9 = .ok (.iconst 0, 1) := by decide +kernel
theorem dX7_allKnow_10 : decode cX7_allKnow 10 = .ok (.iaload, 1) := by decide +kernel
theorem dX7_allKnow_11 : decode cX7_allKnow 11 = .ok (.if_icmp .ge 27, 3) := by decide +kernel
theorem dX7_allKnow_14 : decode cX7_allKnow 14 = .ok (.iload_n 1, 1) := by decide +kernel
theorem dX7_allKnow_15 : decode cX7_allKnow 15 = .ok (.ifCond .eq 15, 3) := by decide +kernel
theorem dX7_allKnow_18 : decode cX7_allKnow 18 = .ok (.aload_n 0, 1) := by decide +kernel
theorem dX7_allKnow_19 : decode cX7_allKnow 19 = .ok (.iload_n 2, 1) := by decide +kernel
theorem dX7_allKnow_20 : decode cX7_allKnow 20 = .ok (.invokevirtual 279, 3) := by decide +kernel
theorem dX7_allKnow_23 : decode cX7_allKnow 23 = .ok (.ifCond .eq 7, 3) := by decide +kernel
theorem dX7_allKnow_26 : decode cX7_allKnow 26 = .ok (.iconst 1, 1) := by decide +kernel
theorem dX7_allKnow_27 : decode cX7_allKnow 27 = .ok (.goto 4, 3) := by decide +kernel
theorem dX7_allKnow_30 : decode cX7_allKnow 30 = .ok (.iconst 0, 1) := by decide +kernel
theorem dX7_allKnow_31 : decode cX7_allKnow 31 = .ok (.istore_n 1, 1) := by decide +kernel
theorem dX7_allKnow_32 : decode cX7_allKnow 32 = .ok (.iinc 2 1, 3) := by decide +kernel
theorem dX7_allKnow_35 : decode cX7_allKnow 35 = .ok (.goto (-31), 3) := by decide +kernel
theorem dX7_allKnow_38 : decode cX7_allKnow 38 = .ok (.iload_n 1, 1) := by decide +kernel
theorem dX7_allKnow_39 : decode cX7_allKnow 39 = .ok (.ireturn, 1) := by decide +kernel
theorem dX7_allKnownIn_0 : decode cX7_allKnownIn 0 = .ok (.aload_n 0, 1) := by decide +kernel
theorem dX7_allKnownIn_1 : decode cX7_allKnownIn 1 = .ok (.iconst 0, 1) := by decide +kernel
theorem dX7_allKnownIn_2 : decode cX7_allKnownIn 2 = .ok (.putfield 66, 3) := by decide +kernel
theorem dX7_allKnownIn_5 : decode cX7_allKnownIn 5 = .ok (.aload_n 0, 1) := by decide +kernel
theorem dX7_allKnownIn_6 : decode cX7_allKnownIn 6 = .ok (.invokevirtual 384, 3) := by decide +kernel
theorem dX7_allKnownIn_9 : decode cX7_allKnownIn 9 = .ok (.iconst 0, 1) := by decide +kernel
theorem dX7_allKnownIn_10 : decode cX7_allKnownIn 10 = .ok (.istore_n 1, 1) := by decide +kernel
theorem dX7_allKnownIn_11 : decode cX7_allKnownIn 11 = .ok (.iload_n 1, 1) := by decide +kernel
theorem dX7_allKnownIn_12 : decode cX7_allKnownIn 12 = .ok (.sipush 300, 3) := by decide +kernel
theorem dX7_allKnownIn_15 : decode cX7_allKnownIn 15 = .ok (.if_icmp .ge 20, 3) := by decide +kernel
theorem dX7_allKnownIn_18 : decode cX7_allKnownIn 18 = .ok (.aload_n 0, 1) := by decide +kernel
theorem dX7_allKnownIn_19 : decode cX7_allKnownIn 19 = .ok (.invokevirtual 402, 3) := by decide +kernel
theorem dX7_allKnownIn_22 : decode cX7_allKnownIn 22 = .ok (.ifCond .ne 13, 3) := by decide +kernel
theorem dX7_allKnownIn_25 : decode cX7_allKnownIn 25 = .ok (.aload_n 0, 1) := by decide +kernel
theorem dX7_allKnownIn_26 : decode cX7_allKnownIn 26 = .ok (.invokevirtual 338, 3) := by decide +kernel
theorem dX7_allKnownIn_29 : decode cX7_allKnownIn 29 = .ok (.iinc 1 1, 3) := by decide +kernel
theorem dX7_allKnownIn_32 : decode cX7_allKnownIn 32 = .ok (.goto (-21), 3) := by decide +kernel
theorem dX7_allKnownIn_35 : decode cX7_allKnownIn 35 = .ok (.aload_n 0, 1) := by decide +kernel
theorem dX7_allKnownIn_36 : decode cX7_allKnownIn 36 = .ok (.aload_n 0, 1) := by decide +kernel
theorem dX7_allKnownIn_37 : decode cX7_allKnownIn 37 = .ok (.invokevirtual 402, 3) := by decide +kernel
theorem dX7_allKnownIn_40 : decode cX7_allKnownIn 40 = .ok (.ifCond .eq 7, 3) := by decide +kernel
theorem dX7_allKnownIn_43 : decode cX7_allKnownIn 43 = .ok (.iload_n 1, 1) := by decide +kernel
theorem dX7_allKnownIn_44 : decode cX7_allKnownIn 44 = .ok (.goto 4, 3) := by decide +kernel
theorem dX7_allKnownIn_47 : decode cX7_allKnownIn 47 = .ok (.iconst (-1), 1) := by decide +kernel
theorem dX7_allKnownIn_48 : decode cX7_allKnownIn 48 = .ok (.invokevirtual 390, 3) := by decide +kernel
theorem dX7_allKnownIn_51 : decode cX7_allKnownIn 51 = .ok (.ireturn, 1) := by decide +kernel
theorem dX7_stateWithin_0 : decode cX7_stateWithin 0 = .ok (.aload_n 0, 1) := by decide +kernel
theorem dX7_stateWithin_1 : decode cX7_stateWithin 1 = .ok (.invokevirtual 384, 3) := by decide +kernel
theorem dX7_stateWithin_4 : decode cX7_stateWithin 4 = .ok (.iconst 0, 1) := by decide +kernel
theorem dX7_stateWithin_5 : decode cX7_stateWithin 5 = .ok (.istore_n 3, 1) := by decide +kernel
theorem dX7_stateWithin_6 : decode cX7_stateWithin 6 = .ok (.iload_n 3, 1) := by decide +kernel
theorem dX7_stateWithin_7 : decode cX7_stateWithin 7 = .ok (.sipush 300, 3) := by decide +kernel
theorem dX7_stateWithin_10 : decode cX7_stateWithin 10 = .ok (.if_icmp .ge 22, 3) := by decide +kernel
theorem dX7_stateWithin_13 : decode cX7_stateWithin 13 = .ok (.aload_n 0, 1) := by decide +kernel
theorem dX7_stateWithin_14 : decode cX7_stateWithin 14 = .ok (.iload_n 1, 1) := by decide +kernel
theorem dX7_stateWithin_15 : decode cX7_stateWithin 15 = .ok (.iload_n 2, 1) := by decide +kernel
theorem dX7_stateWithin_16 : decode cX7_stateWithin 16 = .ok (.invokevirtual 297, 3) := by decide +kernel
theorem dX7_stateWithin_19 : decode cX7_stateWithin 19 = .ok (.ifCond .ne 13, 3) := by decide +kernel
theorem dX7_stateWithin_22 : decode cX7_stateWithin 22 = .ok (.aload_n 0, 1) := by decide +kernel
theorem dX7_stateWithin_23 : decode cX7_stateWithin 23 = .ok (.invokevirtual 338, 3) := by decide +kernel
theorem dX7_stateWithin_26 : decode cX7_stateWithin 26 = .ok (.iinc 3 1, 3) := by decide +kernel
theorem dX7_stateWithin_29 : decode cX7_stateWithin 29 = .ok (.goto (-23), 3) := by decide +kernel
theorem dX7_stateWithin_32 : decode cX7_stateWithin 32 = .ok (.aload_n 0, 1) := by decide +kernel
theorem dX7_stateWithin_33 : decode cX7_stateWithin 33 = .ok (.aload_n 0, 1) := by decide +kernel
theorem dX7_stateWithin_34 : decode cX7_stateWithin 34 = .ok (.iload_n 1, 1) := by decide +kernel
theorem dX7_stateWithin_35 : decode cX7_stateWithin 35 = .ok (.iload_n 2, 1) := by decide +kernel
theorem dX7_stateWithin_36 : decode cX7_stateWithin 36 = .ok (.invokevirtual 297, 3) := by decide +kernel
theorem dX7_stateWithin_39 : decode cX7_stateWithin 39 = .ok (.ifCond .eq 7, 3) := by decide +kernel
theorem dX7_stateWithin_42 : decode cX7_stateWithin 42 = .ok (.iload_n 3, 1) := by decide +kernel
theorem dX7_stateWithin_43 : decode cX7_stateWithin 43 = .ok (.goto 4, 3) := by decide +kernel
theorem dX7_stateWithin_46 : decode cX7_stateWithin 46 = .ok (.iconst (-1), 1) := by decide +kernel
theorem dX7_stateWithin_47 : decode cX7_stateWithin 47 = .ok (.invokevirtual 390, 3) := by decide +kernel
theorem dX7_stateWithin_50 : decode cX7_stateWithin 50 = .ok (.ireturn, 1) := by decide +kernel
theorem dX7_outIn_0 : decode cX7_outIn 0 = .ok (.aload_n 0, 1) := by decide +kernel
theorem dX7_outIn_1 : decode cX7_outIn 1 = .ok (.aload_n 0, 1) := by decide +kernel
theorem dX7_outIn_2 : decode cX7_outIn 2 = .ok (.iload_n 1, 1) := by decide +kernel
theorem dX7_outIn_3 : decode cX7_outIn 3 = .ok (.invokevirtual 341, 3) := by decide +kernel
theorem dX7_outIn_6 : decode cX7_outIn 6 = .ok (.invokevirtual 76, 3) := by decide +kernel
theorem dX7_outIn_9 : decode cX7_outIn 9 = .ok (.ifCond .eq 12, 3) := by decide +kernel
theorem dX7_outIn_12 : decode cX7_outIn 12 = .ok (.aload_n 0, 1) := by decide +kernel
theorem dX7_outIn_13 : decode cX7_outIn 13 = .ok (.iload_n 1, 1) := by decide +kernel
theorem dX7_outIn_14 : decode cX7_outIn 14 = .ok (.iconst 4, 1) := by decide +kernel
theorem dX7_outIn_15 : decode cX7_outIn 15 = .ok (.invokevirtual 405, 3) := by decide +kernel
theorem dX7_outIn_18 : decode cX7_outIn 18 = .ok (.goto 4, 3) := by decide +kernel
theorem dX7_outIn_21 : decode cX7_outIn 21 = .ok (.iconst 0, 1) := by decide +kernel
theorem dX7_outIn_22 : decode cX7_outIn 22 = .ok (.ireturn, 1) := by decide +kernel
theorem dX7_sendsIn_0 : decode cX7_sendsIn 0 = .ok (.aload_n 0, 1) := by decide +kernel
theorem dX7_sendsIn_1 : decode cX7_sendsIn 1 = .ok (.aload_n 0, 1) := by decide +kernel
theorem dX7_sendsIn_2 : decode cX7_sendsIn 2 = .ok (.iload_n 1, 1) := by decide +kernel
theorem dX7_sendsIn_3 : decode cX7_sendsIn 3 = .ok (.invokevirtual 341, 3) := by decide +kernel
theorem dX7_sendsIn_6 : decode cX7_sendsIn 6 = .ok (.invokevirtual 76, 3) := by decide +kernel
theorem dX7_sendsIn_9 : decode cX7_sendsIn 9 = .ok (.ifCond .ne 5, 3) := by decide +kernel
theorem dX7_sendsIn_12 : decode cX7_sendsIn 12 = .ok (.iconst 0, 1) := by decide +kernel
theorem dX7_sendsIn_13 : decode cX7_sendsIn 13 = .ok (.ireturn, 1) := by decide +kernel
theorem dX7_sendsIn_14 : decode cX7_sendsIn 14 = .ok (.aload_n 0, 1) := by decide +kernel
theorem dX7_sendsIn_15 : decode cX7_sendsIn 15 = .ok (.iload_n 1, 1) := by decide +kernel
theorem dX7_sendsIn_16 : decode cX7_sendsIn 16 = .ok (.iconst 3, 1) := by decide +kernel
theorem dX7_sendsIn_17 : decode cX7_sendsIn 17 = .ok (.invokevirtual 297, 3) := by decide +kernel
theorem dX7_sendsIn_20 : decode cX7_sendsIn 20 = .ok (.ifCond .eq 5, 3) := by decide +kernel
theorem dX7_sendsIn_23 : decode cX7_sendsIn 23 = .ok (.iconst 0, 1) := by decide +kernel
theorem dX7_sendsIn_24 : decode cX7_sendsIn 24 = .ok (.ireturn, 1) := by decide +kernel
theorem dX7_sendsIn_25 : decode cX7_sendsIn 25 = .ok (.aload_n 0, 1) := by decide +kernel
theorem dX7_sendsIn_26 : decode cX7_sendsIn 26 = .ok (.invokevirtual 384, 3) := by decide +kernel
theorem dX7_sendsIn_29 : decode cX7_sendsIn 29 = .ok (.iconst 1, 1) := by decide +kernel
theorem dX7_sendsIn_30 : decode cX7_sendsIn 30 = .ok (.istore_n 2, 1) := by decide +kernel
theorem dX7_sendsIn_31 : decode cX7_sendsIn 31 = .ok (.iload_n 2, 1) := by decide +kernel
theorem dX7_sendsIn_32 : decode cX7_sendsIn 32 = .ok (.sipush 300, 3) := by decide +kernel
theorem dX7_sendsIn_35 : decode cX7_sendsIn 35 = .ok (.if_icmp .gt 33, 3) := by decide +kernel
theorem dX7_sendsIn_38 : decode cX7_sendsIn 38 = .ok (.aload_n 0, 1) := by decide +kernel
theorem dX7_sendsIn_39 : decode cX7_sendsIn 39 = .ok (.invokevirtual 338, 3) := by decide +kernel
theorem dX7_sendsIn_42 : decode cX7_sendsIn 42 = .ok (.aload_n 0, 1) := by decide +kernel
theorem dX7_sendsIn_43 : decode cX7_sendsIn 43 = .ok (.getfield 20, 3) := by decide +kernel
theorem dX7_sendsIn_46 : decode cX7_sendsIn 46 = .ok (.bipush 12, 2) := by decide +kernel
theorem dX7_sendsIn_48 : decode cX7_sendsIn 48 = .ok (.iaload, 1) := by decide +kernel
theorem dX7_sendsIn_49 : decode cX7_sendsIn 49 = .ok (.iload_n 1, 1) := by decide +kernel
theorem dX7_sendsIn_50 : decode cX7_sendsIn 50 = .ok (.invokestatic 180, 3) := by decide +kernel
theorem dX7_sendsIn_53 : decode cX7_sendsIn 53 = .ok (.ifCond .eq 9, 3) := by decide +kernel
theorem dX7_sendsIn_56 : decode cX7_sendsIn 56 = .ok (.aload_n 0, 1) := by decide +kernel
theorem dX7_sendsIn_57 : decode cX7_sendsIn 57 = .ok (.iload_n 2, 1) := by decide +kernel
theorem dX7_sendsIn_58 : decode cX7_sendsIn 58 = .ok (.invokevirtual 390, 3) := by decide +kernel
theorem dX7_sendsIn_61 : decode cX7_sendsIn 61 = .ok (.ireturn, 1) := by decide +kernel
theorem dX7_sendsIn_62 : decode cX7_sendsIn 62 = .ok (.iinc 2 1, 3) := by decide +kernel
theorem dX7_sendsIn_65 : decode cX7_sendsIn 65 = .ok (.goto (-34), 3) := by decide +kernel
theorem dX7_sendsIn_68 : decode cX7_sendsIn 68 = .ok (.aload_n 0, 1) := by decide +kernel
theorem dX7_sendsIn_69 : decode cX7_sendsIn 69 = .ok (.iconst (-1), 1) := by decide +kernel
theorem dX7_sendsIn_70 : decode cX7_sendsIn 70 = .ok (.invokevirtual 390, 3) := by decide +kernel
theorem dX7_sendsIn_73 : decode cX7_sendsIn 73 = .ok (.ireturn, 1) := by decide +kernel
theorem dX7_wellIn_0 : decode cX7_wellIn 0 = .ok (.aload_n 0, 1) := by decide +kernel
theorem dX7_wellIn_1 : decode cX7_wellIn 1 = .ok (.aload_n 0, 1) := by decide +kernel
theorem dX7_wellIn_2 : decode cX7_wellIn 2 = .ok (.iload_n 1, 1) := by decide +kernel
theorem dX7_wellIn_3 : decode cX7_wellIn 3 = .ok (.invokevirtual 341, 3) := by decide +kernel
theorem dX7_wellIn_6 : decode cX7_wellIn 6 = .ok (.invokevirtual 76, 3) := by decide +kernel
theorem dX7_wellIn_9 : decode cX7_wellIn 9 = .ok (.ifCond .ne 5, 3) := by decide +kernel
theorem dX7_wellIn_12 : decode cX7_wellIn 12 = .ok (.iconst 0, 1) := by decide +kernel
theorem dX7_wellIn_13 : decode cX7_wellIn 13 = .ok (.ireturn, 1) := by decide +kernel
theorem dX7_wellIn_14 : decode cX7_wellIn 14 = .ok (.aload_n 0, 1) := by decide +kernel
theorem dX7_wellIn_15 : decode cX7_wellIn 15 = .ok (.invokevirtual 384, 3) := by decide +kernel
theorem dX7_wellIn_18 : decode cX7_wellIn 18 = .ok (.aload_n 0, 1) := by decide +kernel
theorem dX7_wellIn_19 : decode cX7_wellIn 19 = .ok (.iload_n 1, 1) := by decide +kernel
theorem dX7_wellIn_20 : decode cX7_wellIn 20 = .ok (.bipush 11, 2) := by decide +kernel
theorem dX7_wellIn_22 : decode cX7_wellIn 22 = .ok (.invokevirtual 251, 3) := by decide +kernel
theorem dX7_wellIn_25 : decode cX7_wellIn 25 = .ok (.istore_n 2, 1) := by decide +kernel
theorem dX7_wellIn_26 : decode cX7_wellIn 26 = .ok (.iconst 1, 1) := by decide +kernel
theorem dX7_wellIn_27 : decode cX7_wellIn 27 = .ok (.istore_n 3, 1) := by decide +kernel
theorem dX7_wellIn_28 : decode cX7_wellIn 28 = .ok (.iload_n 3, 1) := by decide +kernel
theorem dX7_wellIn_29 : decode cX7_wellIn 29 = .ok (.sipush 300, 3) := by decide +kernel
theorem dX7_wellIn_32 : decode cX7_wellIn 32 = .ok (.if_icmp .gt 30, 3) := by decide +kernel
theorem dX7_wellIn_35 : decode cX7_wellIn 35 = .ok (.aload_n 0, 1) := by decide +kernel
theorem dX7_wellIn_36 : decode cX7_wellIn 36 = .ok (.invokevirtual 338, 3) := by decide +kernel
theorem dX7_wellIn_39 : decode cX7_wellIn 39 = .ok (.aload_n 0, 1) := by decide +kernel
theorem dX7_wellIn_40 : decode cX7_wellIn 40 = .ok (.iload_n 1, 1) := by decide +kernel
theorem dX7_wellIn_41 : decode cX7_wellIn 41 = .ok (.bipush 11, 2) := by decide +kernel
theorem dX7_wellIn_43 : decode cX7_wellIn 43 = .ok (.invokevirtual 251, 3) := by decide +kernel
theorem dX7_wellIn_46 : decode cX7_wellIn 46 = .ok (.iload_n 2, 1) := by decide +kernel
theorem dX7_wellIn_47 : decode cX7_wellIn 47 = .ok (.if_icmp .le 9, 3) := by decide +kernel
theorem dX7_wellIn_50 : decode cX7_wellIn 50 = .ok (.aload_n 0, 1) := by decide +kernel
theorem dX7_wellIn_51 : decode cX7_wellIn 51 = .ok (.iload_n 3, 1) := by decide +kernel
theorem dX7_wellIn_52 : decode cX7_wellIn 52 = .ok (.invokevirtual 390, 3) := by decide +kernel
theorem dX7_wellIn_55 : decode cX7_wellIn 55 = .ok (.ireturn, 1) := by decide +kernel
theorem dX7_wellIn_56 : decode cX7_wellIn 56 = .ok (.iinc 3 1, 3) := by decide +kernel
theorem dX7_wellIn_59 : decode cX7_wellIn 59 = .ok (.goto (-31), 3) := by decide +kernel
theorem dX7_wellIn_62 : decode cX7_wellIn 62 = .ok (.aload_n 0, 1) := by decide +kernel
theorem dX7_wellIn_63 : decode cX7_wellIn 63 = .ok (.iconst (-1), 1) := by decide +kernel
theorem dX7_wellIn_64 : decode cX7_wellIn 64 = .ok (.invokevirtual 390, 3) := by decide +kernel
theorem dX7_wellIn_67 : decode cX7_wellIn 67 = .ok (.ireturn, 1) := by decide +kernel
theorem dX7_byFirst_0 : decode cX7_byFirst 0 = .ok (.aload_n 0, 1) := by decide +kernel
theorem dX7_byFirst_1 : decode cX7_byFirst 1 = .ok (.invokevirtual 384, 3) := by decide +kernel
theorem dX7_byFirst_4 : decode cX7_byFirst 4 = .ok (.aload_n 0, 1) := by decide +kernel
theorem dX7_byFirst_5 : decode cX7_byFirst 5 = .ok (.iload_n 1, 1) := by decide +kernel
theorem dX7_byFirst_6 : decode cX7_byFirst 6 = .ok (.iconst 1, 1) := by decide +kernel
theorem dX7_byFirst_7 : decode cX7_byFirst 7 = .ok (.iload_n 2, 1) := by decide +kernel
theorem dX7_byFirst_8 : decode cX7_byFirst 8 = .ok (.invokevirtual 148, 3) := by decide +kernel
theorem dX7_byFirst_11 : decode cX7_byFirst 11 = .ok (.aload_n 0, 1) := by decide +kernel
theorem dX7_byFirst_12 : decode cX7_byFirst 12 = .ok (.aload_n 0, 1) := by decide +kernel
theorem dX7_byFirst_13 : decode cX7_byFirst 13 = .ok (.bipush 100, 2) := by decide +kernel
theorem dX7_byFirst_15 : decode cX7_byFirst 15 = .ok (.invokevirtual 399, 3) := by decide +kernel
theorem dX7_byFirst_18 : decode cX7_byFirst 18 = .ok (.invokevirtual 390, 3) := by decide +kernel
theorem dX7_byFirst_21 : decode cX7_byFirst 21 = .ok (.ireturn, 1) := by decide +kernel
theorem dX7_bestAt_0 : decode cX7_bestAt 0 = .ok (.aload_n 0, 1) := by decide +kernel
theorem dX7_bestAt_1 : decode cX7_bestAt 1 = .ok (.aload_n 0, 1) := by decide +kernel
theorem dX7_bestAt_2 : decode cX7_bestAt 2 = .ok (.iload_n 1, 1) := by decide +kernel
theorem dX7_bestAt_3 : decode cX7_bestAt 3 = .ok (.invokevirtual 341, 3) := by decide +kernel
theorem dX7_bestAt_6 : decode cX7_bestAt 6 = .ok (.invokevirtual 76, 3) := by decide +kernel
theorem dX7_bestAt_9 : decode cX7_bestAt 9 = .ok (.ifCond .ne 5, 3) := by decide +kernel
theorem dX7_bestAt_12 : decode cX7_bestAt 12 = .ok (.iconst 0, 1) := by decide +kernel
theorem dX7_bestAt_13 : decode cX7_bestAt 13 = .ok (.ireturn, 1) := by decide +kernel
theorem dX7_bestAt_14 : decode cX7_bestAt 14 = .ok (.iconst 0, 1) := by decide +kernel
theorem dX7_bestAt_15 : decode cX7_bestAt 15 = .ok (.istore_n 2, 1) := by decide +kernel
theorem dX7_bestAt_16 : decode cX7_bestAt 16 = .ok (.aload_n 0, 1) := by decide +kernel
theorem dX7_bestAt_17 : decode cX7_bestAt 17 = .ok (.iload_n 1, 1) := by decide +kernel
theorem dX7_bestAt_18 : decode cX7_bestAt 18 = .ok (.iconst 0, 1) := by decide +kernel
theorem dX7_bestAt_19 : decode cX7_bestAt 19 = .ok (.invokevirtual 408, 3) := by decide +kernel
theorem dX7_bestAt_22 : decode cX7_bestAt 22 = .ok (.istore_n 3, 1) := by decide +kernel
theorem dX7_bestAt_23 : decode cX7_bestAt 23 = .ok (.iconst 1, 1) := by decide +kernel
theorem dX7_bestAt_24 : decode cX7_bestAt 24 = .ok (.istore 4, 2) := by decide +kernel
theorem dX7_bestAt_26 : decode cX7_bestAt 26 = .ok (.iload 4, 2) := by decide +kernel
theorem dX7_bestAt_28 : decode cX7_bestAt 28 = .ok (.aload_n 0, 1) := by decide +kernel
theorem dX7_bestAt_29 : decode cX7_bestAt 29 = .ok (.iload_n 1, 1) := by decide +kernel
theorem dX7_bestAt_30 : decode cX7_bestAt 30 = .ok (.iconst 0, 1) := by decide +kernel
theorem dX7_bestAt_31 : decode cX7_bestAt 31 = .ok (.invokevirtual 251, 3) := by decide +kernel
theorem dX7_bestAt_34 : decode cX7_bestAt 34 = .ok (.if_icmp .ge 33, 3) := by decide +kernel
theorem dX7_bestAt_37 : decode cX7_bestAt 37 = .ok (.aload_n 0, 1) := by decide +kernel
theorem dX7_bestAt_38 : decode cX7_bestAt 38 = .ok (.iload_n 1, 1) := by decide +kernel
theorem dX7_bestAt_39 : decode cX7_bestAt 39 = .ok (.iload 4, 2) := by decide +kernel
theorem dX7_bestAt_41 : decode cX7_bestAt 41 = .ok (.invokevirtual 408, 3) := by decide +kernel
theorem dX7_bestAt_44 : decode cX7_bestAt 44 = .ok (.istore 5, 2) := by decide +kernel
theorem dX7_bestAt_46 : decode cX7_bestAt 46 = .ok (.iload 5, 2) := by decide +kernel
theorem dX7_bestAt_48 : decode cX7_bestAt 48 = .ok (.iload_n 3, 1) := by decide +kernel
theorem dX7_bestAt_49 : decode cX7_bestAt 49 = .ok (.if_icmp .lt 6, 3) := by decide +kernel
theorem dX7_bestAt_52 : decode cX7_bestAt 52 = .ok (.goto 9, 3) := by decide +kernel
theorem dX7_bestAt_55 : decode cX7_bestAt 55 = .ok (.iload 5, 2) := by decide +kernel
theorem dX7_bestAt_57 : decode cX7_bestAt 57 = .ok (.istore_n 3, 1) := by decide +kernel
theorem dX7_bestAt_58 : decode cX7_bestAt 58 = .ok (.iload 4, 2) := by decide +kernel
theorem dX7_bestAt_60 : decode cX7_bestAt 60 = .ok (.istore_n 2, 1) := by decide +kernel
theorem dX7_bestAt_61 : decode cX7_bestAt 61 = .ok (.iinc 4 1, 3) := by decide +kernel
theorem dX7_bestAt_64 : decode cX7_bestAt 64 = .ok (.goto (-38), 3) := by decide +kernel
theorem dX7_bestAt_67 : decode cX7_bestAt 67 = .ok (.iload_n 2, 1) := by decide +kernel
theorem dX7_bestAt_68 : decode cX7_bestAt 68 = .ok (.ireturn, 1) := by decide +kernel
theorem dX7_byPeriod_0 : decode cX7_byPeriod 0 = .ok (.aload_n 0, 1) := by decide +kernel
theorem dX7_byPeriod_1 : decode cX7_byPeriod 1 = .ok (.invokevirtual 384, 3) := by decide +kernel
theorem dX7_byPeriod_4 : decode cX7_byPeriod 4 = .ok (.aload_n 0, 1) := by decide +kernel
theorem dX7_byPeriod_5 : decode cX7_byPeriod 5 = .ok (.iload_n 1, 1) := by decide +kernel
theorem dX7_byPeriod_6 : decode cX7_byPeriod 6 = .ok (.iconst 0, 1) := by decide +kernel
theorem dX7_byPeriod_7 : decode cX7_byPeriod 7 = .ok (.iload_n 2, 1) := by decide +kernel
theorem dX7_byPeriod_8 : decode cX7_byPeriod 8 = .ok (.invokevirtual 148, 3) := by decide +kernel
theorem dX7_byPeriod_11 : decode cX7_byPeriod 11 = .ok (.aload_n 0, 1) := by decide +kernel
theorem dX7_byPeriod_12 : decode cX7_byPeriod 12 = .ok (.aload_n 0, 1) := by decide +kernel
theorem dX7_byPeriod_13 : decode cX7_byPeriod 13 = .ok (.bipush 100, 2) := by decide +kernel
theorem dX7_byPeriod_15 : decode cX7_byPeriod 15 = .ok (.invokevirtual 387, 3) := by decide +kernel
theorem dX7_byPeriod_18 : decode cX7_byPeriod 18 = .ok (.invokevirtual 390, 3) := by decide +kernel
theorem dX7_byPeriod_21 : decode cX7_byPeriod 21 = .ok (.ireturn, 1) := by decide +kernel
theorem dX7_bestEvery_0 : decode cX7_bestEvery 0 = .ok (.aload_n 0, 1) := by decide +kernel
theorem dX7_bestEvery_1 : decode cX7_bestEvery 1 = .ok (.aload_n 0, 1) := by decide +kernel
theorem dX7_bestEvery_2 : decode cX7_bestEvery 2 = .ok (.iload_n 1, 1) := by decide +kernel
theorem dX7_bestEvery_3 : decode cX7_bestEvery 3 = .ok (.invokevirtual 341, 3) := by decide +kernel
theorem dX7_bestEvery_6 : decode cX7_bestEvery 6 = .ok (.invokevirtual 76, 3) := by decide +kernel
theorem dX7_bestEvery_9 : decode cX7_bestEvery 9 = .ok (.ifCond .ne 5, 3) := by decide +kernel
theorem dX7_bestEvery_12 : decode cX7_bestEvery 12 = .ok (.iconst 0, 1) := by decide +kernel
theorem dX7_bestEvery_13 : decode cX7_bestEvery 13 = .ok (.ireturn, 1) := by decide +kernel
theorem dX7_bestEvery_14 : decode cX7_bestEvery 14 = .ok (.iconst (-1), 1) := by decide +kernel
theorem dX7_bestEvery_15 : decode cX7_bestEvery 15 = .ok (.istore_n 2, 1) := by decide +kernel
theorem dX7_bestEvery_16 : decode cX7_bestEvery 16 = .ok (.iconst (-1), 1) := by decide +kernel
theorem dX7_bestEvery_17 : decode cX7_bestEvery 17 = .ok (.istore_n 3, 1) := by decide +kernel
theorem dX7_bestEvery_18 : decode cX7_bestEvery 18 = .ok (.iconst 2, 1) := by decide +kernel
theorem dX7_bestEvery_19 : decode cX7_bestEvery 19 = .ok (.aload_n 0, 1) := by decide +kernel
theorem dX7_bestEvery_20 : decode cX7_bestEvery 20 = .ok (.iload_n 1, 1) := by decide +kernel
theorem dX7_bestEvery_21 : decode cX7_bestEvery 21 = .ok (.iconst 1, 1) := by decide +kernel
theorem dX7_bestEvery_22 : decode cX7_bestEvery 22 = .ok (.invokevirtual 251, 3) := by decide +kernel
theorem dX7_bestEvery_25 : decode cX7_bestEvery 25 = .ok (.iconst 1, 1) := by decide +kernel
theorem dX7_bestEvery_26 : decode cX7_bestEvery 26 = .ok (.iadd, 1) := by decide +kernel
theorem dX7_bestEvery_27 : decode cX7_bestEvery 27 = .ok (.invokestatic 411, 3) := by decide +kernel
theorem dX7_bestEvery_30 : decode cX7_bestEvery 30 = .ok (.istore 4, 2) := by decide +kernel
theorem dX7_bestEvery_32 : decode cX7_bestEvery 32 = .ok (.iload 4, 2) := by decide +kernel
theorem dX7_bestEvery_34 : decode cX7_bestEvery 34 = .ok (.bipush 100, 2) := by decide +kernel
theorem dX7_bestEvery_36 : decode cX7_bestEvery 36 = .ok (.if_icmp .ge 33, 3) := by decide +kernel
theorem dX7_bestEvery_39 : decode cX7_bestEvery 39 = .ok (.aload_n 0, 1) := by decide +kernel
theorem dX7_bestEvery_40 : decode cX7_bestEvery 40 = .ok (.iload_n 1, 1) := by decide +kernel
theorem dX7_bestEvery_41 : decode cX7_bestEvery 41 = .ok (.iload 4, 2) := by decide +kernel
theorem dX7_bestEvery_43 : decode cX7_bestEvery 43 = .ok (.invokevirtual 414, 3) := by decide +kernel
theorem dX7_bestEvery_46 : decode cX7_bestEvery 46 = .ok (.istore 5, 2) := by decide +kernel
theorem dX7_bestEvery_48 : decode cX7_bestEvery 48 = .ok (.iload 5, 2) := by decide +kernel
theorem dX7_bestEvery_50 : decode cX7_bestEvery 50 = .ok (.iload_n 3, 1) := by decide +kernel
theorem dX7_bestEvery_51 : decode cX7_bestEvery 51 = .ok (.if_icmp .ge 6, 3) := by decide +kernel
theorem dX7_bestEvery_54 : decode cX7_bestEvery 54 = .ok (.goto 9, 3) := by decide +kernel
theorem dX7_bestEvery_57 : decode cX7_bestEvery 57 = .ok (.iload 5, 2) := by decide +kernel
theorem dX7_bestEvery_59 : decode cX7_bestEvery 59 = .ok (.istore_n 3, 1) := by decide +kernel
theorem dX7_bestEvery_60 : decode cX7_bestEvery 60 = .ok (.iload 4, 2) := by decide +kernel
theorem dX7_bestEvery_62 : decode cX7_bestEvery 62 = .ok (.istore_n 2, 1) := by decide +kernel
theorem dX7_bestEvery_63 : decode cX7_bestEvery 63 = .ok (.iinc 4 1, 3) := by decide +kernel
theorem dX7_bestEvery_66 : decode cX7_bestEvery 66 = .ok (.goto (-34), 3) := by decide +kernel
theorem dX7_bestEvery_69 : decode cX7_bestEvery 69 = .ok (.iload_n 2, 1) := by decide +kernel
theorem dX7_bestEvery_70 : decode cX7_bestEvery 70 = .ok (.ireturn, 1) := by decide +kernel
theorem dX7_mayRun_0 : decode cX7_mayRun 0 = .ok (.aload_n 0, 1) := by decide +kernel
theorem dX7_mayRun_1 : decode cX7_mayRun 1 = .ok (.getfield 20, 3) := by decide +kernel
theorem dX7_mayRun_4 : decode cX7_mayRun 4 = .ok (.iconst 1, 1) := by decide +kernel
theorem dX7_mayRun_5 : decode cX7_mayRun 5 = .ok (.iaload, 1) := by decide +kernel
theorem dX7_mayRun_6 : decode cX7_mayRun 6 = .ok (.iload_n 1, 1) := by decide +kernel
theorem dX7_mayRun_7 : decode cX7_mayRun 7 = .ok (.iadd, 1) := by decide +kernel
theorem dX7_mayRun_8 : decode cX7_mayRun 8 = .ok (.ldc_w 417, 3) := by decide +kernel
theorem dX7_mayRun_11 : decode cX7_mayRun 11 = .ok (.if_icmp .gt 7, 3) := by decide +kernel
theorem dX7_mayRun_14 : decode cX7_mayRun 14 = .ok (.iconst 1, 1) := by decide +kernel
theorem dX7_mayRun_15 : decode cX7_mayRun 15 = .ok (.goto 4, 3) := by decide +kernel
theorem dX7_mayRun_18 : decode cX7_mayRun 18 = .ok (.iconst 0, 1) := by decide +kernel
theorem dX7_mayRun_19 : decode cX7_mayRun 19 = .ok (.ireturn, 1) := by decide +kernel
theorem dX7_areMany_0 : decode cX7_areMany 0 = .ok (.iload_n 0, 1) := by decide +kernel
theorem dX7_areMany_1 : decode cX7_areMany 1 = .ok (.i2l, 1) := by decide +kernel
theorem dX7_areMany_2 : decode cX7_areMany 2 = .ok (.lconst 1, 1) := by decide +kernel
theorem dX7_areMany_3 : decode cX7_areMany 3 = .ok (.ldc2_w 418, 3) := by decide +kernel
theorem dX7_areMany_6 : decode cX7_areMany 6 = .ok (.invokestatic 84, 3) := by decide +kernel
theorem dX7_areMany_9 : decode cX7_areMany 9 = .ok (.ireturn, 1) := by decide +kernel
theorem dX7_run_0 : decode cX7_run 0 = .ok (.iload_n 1, 1) := by decide +kernel
theorem dX7_run_1 : decode cX7_run 1 = .ok (.invokestatic 420, 3) := by decide +kernel
theorem dX7_run_4 : decode cX7_run 4 = .ok (.istore_n 2, 1) := by decide +kernel
theorem dX7_run_5 : decode cX7_run 5 = .ok (.aload_n 0, 1) := by decide +kernel
theorem dX7_run_6 : decode cX7_run 6 = .ok (.iload_n 2, 1) := by decide +kernel
theorem dX7_run_7 : decode cX7_run 7 = .ok (.iload_n 2, 1) := by decide +kernel
theorem dX7_run_8 : decode cX7_run 8 = .ok (.ifCond .eq 15, 3) := by decide +kernel
theorem dX7_run_11 : decode cX7_run 11 = .ok (.aload_n 0, 1) := by decide +kernel
theorem dX7_run_12 : decode cX7_run 12 = .ok (.iload_n 1, 1) := by decide +kernel
theorem dX7_run_13 : decode cX7_run 13 = .ok (.invokevirtual 423, 3) := by decide +kernel
theorem dX7_run_16 : decode cX7_run 16 = .ok (.ifCond .eq 7, 3) := by decide +kernel
theorem dX7_run_19 : decode cX7_run 19 = .ok (.iconst 1, 1) := by decide +kernel
theorem dX7_run_20 : decode cX7_run 20 = .ok (.goto 4, 3) := by decide +kernel
theorem dX7_run_23 : decode cX7_run 23 = .ok (.iconst 0, 1) := by decide +kernel
theorem dX7_run_24 : decode cX7_run 24 = .ok (.invokevirtual 354, 3) := by decide +kernel
theorem dX7_run_27 : decode cX7_run 27 = .ok (.ifCond .ne 5, 3) := by decide +kernel
theorem dX7_run_30 : decode cX7_run 30 = .ok (.iconst 0, 1) := by decide +kernel
theorem dX7_run_31 : decode cX7_run 31 = .ok (.ireturn, 1) := by decide +kernel
theorem dX7_run_32 : decode cX7_run 32 = .ok (.aload_n 0, 1) := by decide +kernel
theorem dX7_run_33 : decode cX7_run 33 = .ok (.invokevirtual 242, 3) := by decide +kernel
theorem dX7_run_36 : decode cX7_run 36 = .ok (.aload_n 0, 1) := by decide +kernel
theorem dX7_run_37 : decode cX7_run 37 = .ok (.aload_n 0, 1) := by decide +kernel
theorem dX7_run_38 : decode cX7_run 38 = .ok (.iload_n 1, 1) := by decide +kernel
theorem dX7_run_39 : decode cX7_run 39 = .ok (.invokevirtual 387, 3) := by decide +kernel
theorem dX7_run_42 : decode cX7_run 42 = .ok (.invokevirtual 426, 3) := by decide +kernel
theorem dX7_run_45 : decode cX7_run 45 = .ok (.ireturn, 1) := by decide +kernel
theorem dX7_awakens_0 : decode cX7_awakens 0 = .ok (.aload_n 0, 1) := by decide +kernel
theorem dX7_awakens_1 : decode cX7_awakens 1 = .ok (.iload_n 1, 1) := by decide +kernel
theorem dX7_awakens_2 : decode cX7_awakens 2 = .ok (.invokevirtual 282, 3) := by decide +kernel
theorem dX7_awakens_5 : decode cX7_awakens 5 = .ok (.aload_n 0, 1) := by decide +kernel
theorem dX7_awakens_6 : decode cX7_awakens 6 = .ok (.getfield 20, 3) := by decide +kernel
theorem dX7_awakens_9 : decode cX7_awakens 9 = .ok (.iconst 1, 1) := by decide +kernel
theorem dX7_awakens_10 : decode cX7_awakens 10 = .ok (.iaload, 1) := by decide +kernel
theorem dX7_awakens_11 : decode cX7_awakens 11 = .ok (.ireturn, 1) := by decide +kernel
theorem dX7_wake_0 : decode cX7_wake 0 = .ok (.aload_n 0, 1) := by decide +kernel
theorem dX7_wake_1 : decode cX7_wake 1 = .ok (.iload_n 1, 1) := by decide +kernel
theorem dX7_wake_2 : decode cX7_wake 2 = .ok (.invokevirtual 341, 3) := by decide +kernel
theorem dX7_wake_5 : decode cX7_wake 5 = .ok (.istore_n 2, 1) := by decide +kernel
theorem dX7_wake_6 : decode cX7_wake 6 = .ok (.aload_n 0, 1) := by decide +kernel
theorem dX7_wake_7 : decode cX7_wake 7 = .ok (.iload_n 2, 1) := by decide +kernel
theorem dX7_wake_8 : decode cX7_wake 8 = .ok (.iload_n 2, 1) := by decide +kernel
theorem dX7_wake_9 : decode cX7_wake 9 = .ok (.ifCond .eq 16, 3) := by decide +kernel
theorem dX7_wake_12 : decode cX7_wake 12 = .ok (.aload_n 0, 1) := by decide +kernel
theorem dX7_wake_13 : decode cX7_wake 13 = .ok (.iload_n 1, 1) := by decide +kernel
theorem dX7_wake_14 : decode cX7_wake 14 = .ok (.iconst 0, 1) := by decide +kernel
theorem dX7_wake_15 : decode cX7_wake 15 = .ok (.invokevirtual 297, 3) := by decide +kernel
theorem dX7_wake_18 : decode cX7_wake 18 = .ok (.ifCond .eq 7, 3) := by decide +kernel
theorem dX7_wake_21 : decode cX7_wake 21 = .ok (.iconst 1, 1) := by decide +kernel
theorem dX7_wake_22 : decode cX7_wake 22 = .ok (.goto 4, 3) := by decide +kernel
theorem dX7_wake_25 : decode cX7_wake 25 = .ok (.iconst 0, 1) := by decide +kernel
theorem dX7_wake_26 : decode cX7_wake 26 = .ok (.invokevirtual 354, 3) := by decide +kernel
theorem dX7_wake_29 : decode cX7_wake 29 = .ok (.ifCond .ne 5, 3) := by decide +kernel
theorem dX7_wake_32 : decode cX7_wake 32 = .ok (.iconst 0, 1) := by decide +kernel
theorem dX7_wake_33 : decode cX7_wake 33 = .ok (.ireturn, 1) := by decide +kernel
theorem dX7_wake_34 : decode cX7_wake 34 = .ok (.aload_n 0, 1) := by decide +kernel
theorem dX7_wake_35 : decode cX7_wake 35 = .ok (.invokevirtual 242, 3) := by decide +kernel
theorem dX7_wake_38 : decode cX7_wake 38 = .ok (.aload_n 0, 1) := by decide +kernel
theorem dX7_wake_39 : decode cX7_wake 39 = .ok (.aload_n 0, 1) := by decide +kernel
theorem dX7_wake_40 : decode cX7_wake 40 = .ok (.iload_n 1, 1) := by decide +kernel
theorem dX7_wake_41 : decode cX7_wake 41 = .ok (.invokevirtual 429, 3) := by decide +kernel
theorem dX7_wake_44 : decode cX7_wake 44 = .ok (.invokevirtual 426, 3) := by decide +kernel
theorem dX7_wake_47 : decode cX7_wake 47 = .ok (.ireturn, 1) := by decide +kernel
theorem dX7_swapsCell_0 : decode cX7_swapsCell 0 = .ok (.aload_n 0, 1) := by decide +kernel
theorem dX7_swapsCell_1 : decode cX7_swapsCell 1 = .ok (.getfield 20, 3) := by decide +kernel
theorem dX7_swapsCell_4 : decode cX7_swapsCell 4 = .ok (.iload_n 1, 1) := by decide +kernel
theorem dX7_swapsCell_5 : decode cX7_swapsCell 5 = .ok (.iaload, 1) := by decide +kernel
theorem dX7_swapsCell_6 : decode cX7_swapsCell 6 = .ok (.istore_n 3, 1) := by decide +kernel
theorem dX7_swapsCell_7 : decode cX7_swapsCell 7 = .ok (.aload_n 0, 1) := by decide +kernel
theorem dX7_swapsCell_8 : decode cX7_swapsCell 8 = .ok (.getfield 20, 3) := by decide +kernel
theorem dX7_swapsCell_11 : decode cX7_swapsCell 11 = .ok (.iload_n 1, 1) := by decide +kernel
theorem dX7_swapsCell_12 : decode cX7_swapsCell 12 = .ok (.iload_n 2, 1) := by decide +kernel
theorem dX7_swapsCell_13 : decode cX7_swapsCell 13 = .ok (.iastore, 1) := by decide +kernel
theorem dX7_swapsCell_14 : decode cX7_swapsCell 14 = .ok (.iload_n 3, 1) := by decide +kernel
theorem dX7_swapsCell_15 : decode cX7_swapsCell 15 = .ok (.ireturn, 1) := by decide +kernel
theorem dX7_isPeriod_0 : decode cX7_isPeriod 0 = .ok (.iload_n 2, 1) := by decide +kernel
theorem dX7_isPeriod_1 : decode cX7_isPeriod 1 = .ok (.i2l, 1) := by decide +kernel
theorem dX7_isPeriod_2 : decode cX7_isPeriod 2 = .ok (.ldc2_w 432, 3) := by decide +kernel
theorem dX7_isPeriod_5 : decode cX7_isPeriod 5 = .ok (.ldc2_w 418, 3) := by decide +kernel
theorem dX7_isPeriod_8 : decode cX7_isPeriod 8 = .ok (.invokestatic 84, 3) := by decide +kernel
theorem dX7_isPeriod_11 : decode cX7_isPeriod 11 = .ok (.ifCond .eq 17, 3) := by decide +kernel
theorem dX7_isPeriod_14 : decode cX7_isPeriod 14 = .ok (.iload_n 2, 1) := by decide +kernel
theorem dX7_isPeriod_15 : decode cX7_isPeriod 15 = .ok (.aload_n 0, 1) := by decide +kernel
theorem dX7_isPeriod_16 : decode cX7_isPeriod 16 = .ok (.iload_n 1, 1) := by decide +kernel
theorem dX7_isPeriod_17 : decode cX7_isPeriod 17 = .ok (.iconst 1, 1) := by decide +kernel
theorem dX7_isPeriod_18 : decode cX7_isPeriod 18 = .ok (.invokevirtual 251, 3) := by decide +kernel
theorem dX7_isPeriod_21 : decode cX7_isPeriod 21 = .ok (.if_icmp .le 7, 3) := by decide +kernel
theorem dX7_isPeriod_24 : decode cX7_isPeriod 24 = .ok (.iconst 1, 1) := by decide +kernel
theorem dX7_isPeriod_25 : decode cX7_isPeriod 25 = .ok (.goto 4, 3) := by decide +kernel
theorem dX7_isPeriod_28 : decode cX7_isPeriod 28 = .ok (.iconst 0, 1) := by decide +kernel
theorem dX7_isPeriod_29 : decode cX7_isPeriod 29 = .ok (.ireturn, 1) := by decide +kernel
theorem dX7_isFirst_0 : decode cX7_isFirst 0 = .ok (.iload_n 2, 1) := by decide +kernel
theorem dX7_isFirst_1 : decode cX7_isFirst 1 = .ok (.i2l, 1) := by decide +kernel
theorem dX7_isFirst_2 : decode cX7_isFirst 2 = .ok (.lconst 0, 1) := by decide +kernel
theorem dX7_isFirst_3 : decode cX7_isFirst 3 = .ok (.aload_n 0, 1) := by decide +kernel
theorem dX7_isFirst_4 : decode cX7_isFirst 4 = .ok (.iload_n 1, 1) := by decide +kernel
theorem dX7_isFirst_5 : decode cX7_isFirst 5 = .ok (.iconst 0, 1) := by decide +kernel
theorem dX7_isFirst_6 : decode cX7_isFirst 6 = .ok (.invokevirtual 251, 3) := by decide +kernel
theorem dX7_isFirst_9 : decode cX7_isFirst 9 = .ok (.iconst 1, 1) := by decide +kernel
theorem dX7_isFirst_10 : decode cX7_isFirst 10 = .ok (.isub, 1) := by decide +kernel
theorem dX7_isFirst_11 : decode cX7_isFirst 11 = .ok (.i2l, 1) := by decide +kernel
theorem dX7_isFirst_12 : decode cX7_isFirst 12 = .ok (.invokestatic 84, 3) := by decide +kernel
theorem dX7_isFirst_15 : decode cX7_isFirst 15 = .ok (.ireturn, 1) := by decide +kernel
theorem dX7_setEvery_0 : decode cX7_setEvery 0 = .ok (.aload_n 0, 1) := by decide +kernel
theorem dX7_setEvery_1 : decode cX7_setEvery 1 = .ok (.iload_n 1, 1) := by decide +kernel
theorem dX7_setEvery_2 : decode cX7_setEvery 2 = .ok (.invokevirtual 341, 3) := by decide +kernel
theorem dX7_setEvery_5 : decode cX7_setEvery 5 = .ok (.istore_n 3, 1) := by decide +kernel
theorem dX7_setEvery_6 : decode cX7_setEvery 6 = .ok (.aload_n 0, 1) := by decide +kernel
theorem dX7_setEvery_7 : decode cX7_setEvery 7 = .ok (.iload_n 3, 1) := by decide +kernel
theorem dX7_setEvery_8 : decode cX7_setEvery 8 = .ok (.iload_n 3, 1) := by decide +kernel
theorem dX7_setEvery_9 : decode cX7_setEvery 9 = .ok (.ifCond .eq 16, 3) := by decide +kernel
theorem dX7_setEvery_12 : decode cX7_setEvery 12 = .ok (.aload_n 0, 1) := by decide +kernel
theorem dX7_setEvery_13 : decode cX7_setEvery 13 = .ok (.iload_n 1, 1) := by decide +kernel
theorem dX7_setEvery_14 : decode cX7_setEvery 14 = .ok (.iload_n 2, 1) := by decide +kernel
theorem dX7_setEvery_15 : decode cX7_setEvery 15 = .ok (.invokevirtual 434, 3) := by decide +kernel
theorem dX7_setEvery_18 : decode cX7_setEvery 18 = .ok (.ifCond .eq 7, 3) := by decide +kernel
theorem dX7_setEvery_21 : decode cX7_setEvery 21 = .ok (.iconst 1, 1) := by decide +kernel
theorem dX7_setEvery_22 : decode cX7_setEvery 22 = .ok (.goto 4, 3) := by decide +kernel
theorem dX7_setEvery_25 : decode cX7_setEvery 25 = .ok (.iconst 0, 1) := by decide +kernel
theorem dX7_setEvery_26 : decode cX7_setEvery 26 = .ok (.invokevirtual 354, 3) := by decide +kernel
theorem dX7_setEvery_29 : decode cX7_setEvery 29 = .ok (.ifCond .ne 5, 3) := by decide +kernel
theorem dX7_setEvery_32 : decode cX7_setEvery 32 = .ok (.iconst 0, 1) := by decide +kernel
theorem dX7_setEvery_33 : decode cX7_setEvery 33 = .ok (.ireturn, 1) := by decide +kernel
theorem dX7_setEvery_34 : decode cX7_setEvery 34 = .ok (.aload_n 0, 1) := by decide +kernel
theorem dX7_setEvery_35 : decode cX7_setEvery 35 = .ok (.invokevirtual 242, 3) := by decide +kernel
theorem dX7_setEvery_38 : decode cX7_setEvery 38 = .ok (.aload_n 0, 1) := by decide +kernel
theorem dX7_setEvery_39 : decode cX7_setEvery 39 = .ok (.aload_n 0, 1) := by decide +kernel
theorem dX7_setEvery_40 : decode cX7_setEvery 40 = .ok (.iload_n 1, 1) := by decide +kernel
theorem dX7_setEvery_41 : decode cX7_setEvery 41 = .ok (.iconst 0, 1) := by decide +kernel
theorem dX7_setEvery_42 : decode cX7_setEvery 42 = .ok (.invokestatic 145, 3) := by decide +kernel
theorem dX7_setEvery_45 : decode cX7_setEvery 45 = .ok (.iload_n 2, 1) := by decide +kernel
theorem dX7_setEvery_46 : decode cX7_setEvery 46 = .ok (.invokevirtual 437, 3) := by decide +kernel
theorem dX7_setEvery_49 : decode cX7_setEvery 49 = .ok (.invokevirtual 426, 3) := by decide +kernel
theorem dX7_setEvery_52 : decode cX7_setEvery 52 = .ok (.ireturn, 1) := by decide +kernel
theorem dX7_setAt_0 : decode cX7_setAt 0 = .ok (.aload_n 0, 1) := by decide +kernel
theorem dX7_setAt_1 : decode cX7_setAt 1 = .ok (.iload_n 1, 1) := by decide +kernel
theorem dX7_setAt_2 : decode cX7_setAt 2 = .ok (.invokevirtual 341, 3) := by decide +kernel
theorem dX7_setAt_5 : decode cX7_setAt 5 = .ok (.istore_n 3, 1) := by decide +kernel
theorem dX7_setAt_6 : decode cX7_setAt 6 = .ok (.aload_n 0, 1) := by decide +kernel
theorem dX7_setAt_7 : decode cX7_setAt 7 = .ok (.iload_n 3, 1) := by decide +kernel
theorem dX7_setAt_8 : decode cX7_setAt 8 = .ok (.iload_n 3, 1) := by decide +kernel
theorem dX7_setAt_9 : decode cX7_setAt 9 = .ok (.ifCond .eq 16, 3) := by decide +kernel
theorem dX7_setAt_12 : decode cX7_setAt 12 = .ok (.aload_n 0, 1) := by decide +kernel
theorem dX7_setAt_13 : decode cX7_setAt 13 = .ok (.iload_n 1, 1) := by decide +kernel
theorem dX7_setAt_14 : decode cX7_setAt 14 = .ok (.iload_n 2, 1) := by decide +kernel
theorem dX7_setAt_15 : decode cX7_setAt 15 = .ok (.invokevirtual 440, 3) := by decide +kernel
theorem dX7_setAt_18 : decode cX7_setAt 18 = .ok (.ifCond .eq 7, 3) := by decide +kernel
theorem dX7_setAt_21 : decode cX7_setAt 21 = .ok (.iconst 1, 1) := by decide +kernel
theorem dX7_setAt_22 : decode cX7_setAt 22 = .ok (.goto 4, 3) := by decide +kernel
theorem dX7_setAt_25 : decode cX7_setAt 25 = .ok (.iconst 0, 1) := by decide +kernel
theorem dX7_setAt_26 : decode cX7_setAt 26 = .ok (.invokevirtual 354, 3) := by decide +kernel
theorem dX7_setAt_29 : decode cX7_setAt 29 = .ok (.ifCond .ne 5, 3) := by decide +kernel
theorem dX7_setAt_32 : decode cX7_setAt 32 = .ok (.iconst 0, 1) := by decide +kernel
theorem dX7_setAt_33 : decode cX7_setAt 33 = .ok (.ireturn, 1) := by decide +kernel
theorem dX7_setAt_34 : decode cX7_setAt 34 = .ok (.aload_n 0, 1) := by decide +kernel
theorem dX7_setAt_35 : decode cX7_setAt 35 = .ok (.invokevirtual 242, 3) := by decide +kernel
theorem dX7_setAt_38 : decode cX7_setAt 38 = .ok (.aload_n 0, 1) := by decide +kernel
theorem dX7_setAt_39 : decode cX7_setAt 39 = .ok (.aload_n 0, 1) := by decide +kernel
theorem dX7_setAt_40 : decode cX7_setAt 40 = .ok (.iload_n 1, 1) := by decide +kernel
theorem dX7_setAt_41 : decode cX7_setAt 41 = .ok (.iconst 1, 1) := by decide +kernel
theorem dX7_setAt_42 : decode cX7_setAt 42 = .ok (.invokestatic 145, 3) := by decide +kernel
theorem dX7_setAt_45 : decode cX7_setAt 45 = .ok (.iload_n 2, 1) := by decide +kernel
theorem dX7_setAt_46 : decode cX7_setAt 46 = .ok (.invokevirtual 437, 3) := by decide +kernel
theorem dX7_setAt_49 : decode cX7_setAt 49 = .ok (.invokevirtual 426, 3) := by decide +kernel
theorem dX7_setAt_52 : decode cX7_setAt 52 = .ok (.ireturn, 1) := by decide +kernel
theorem dX7_isBy_0 : decode cX7_isBy 0 = .ok (.iload_n 0, 1) := by decide +kernel
theorem dX7_isBy_1 : decode cX7_isBy 1 = .ok (.i2l, 1) := by decide +kernel
theorem dX7_isBy_2 : decode cX7_isBy 2 = .ok (.lconst 1, 1) := by decide +kernel
theorem dX7_isBy_3 : decode cX7_isBy 3 = .ok (.ldc2_w 443, 3) := by decide +kernel
theorem dX7_isBy_6 : decode cX7_isBy 6 = .ok (.invokestatic 84, 3) := by decide +kernel
theorem dX7_isBy_9 : decode cX7_isBy 9 = .ok (.ireturn, 1) := by decide +kernel
theorem dX7_charges_0 : decode cX7_charges 0 = .ok (.aload_n 0, 1) := by decide +kernel
theorem dX7_charges_1 : decode cX7_charges 1 = .ok (.iload_n 1, 1) := by decide +kernel
theorem dX7_charges_2 : decode cX7_charges 2 = .ok (.iconst 4, 1) := by decide +kernel
theorem dX7_charges_3 : decode cX7_charges 3 = .ok (.invokevirtual 297, 3) := by decide +kernel
theorem dX7_charges_6 : decode cX7_charges 6 = .ok (.ifCond .eq 18, 3) := by decide +kernel
theorem dX7_charges_9 : decode cX7_charges 9 = .ok (.aload_n 0, 1) := by decide +kernel
theorem dX7_charges_10 : decode cX7_charges 10 = .ok (.iload_n 1, 1) := by decide +kernel
theorem dX7_charges_11 : decode cX7_charges 11 = .ok (.bipush 7, 2) := by decide +kernel
theorem dX7_charges_13 : decode cX7_charges 13 = .ok (.iconst 0, 1) := by decide +kernel
theorem dX7_charges_14 : decode cX7_charges 14 = .ok (.invokevirtual 148, 3) := by decide +kernel
theorem dX7_charges_17 : decode cX7_charges 17 = .ok (.aload_n 0, 1) := by decide +kernel
theorem dX7_charges_18 : decode cX7_charges 18 = .ok (.iload_n 1, 1) := by decide +kernel
theorem dX7_charges_19 : decode cX7_charges 19 = .ok (.iconst 0, 1) := by decide +kernel
theorem dX7_charges_20 : decode cX7_charges 20 = .ok (.iconst 0, 1) := by decide +kernel
theorem dX7_charges_21 : decode cX7_charges 21 = .ok (.invokevirtual 264, 3) := by decide +kernel
theorem dX7_charges_24 : decode cX7_charges 24 = .ok (.aload_n 0, 1) := by decide +kernel
theorem dX7_charges_25 : decode cX7_charges 25 = .ok (.iload_n 1, 1) := by decide +kernel
theorem dX7_charges_26 : decode cX7_charges 26 = .ok (.iconst 4, 1) := by decide +kernel
theorem dX7_charges_27 : decode cX7_charges 27 = .ok (.sipush 9999, 3) := by decide +kernel
theorem dX7_charges_30 : decode cX7_charges 30 = .ok (.aload_n 0, 1) := by decide +kernel
theorem dX7_charges_31 : decode cX7_charges 31 = .ok (.iload_n 1, 1) := by decide +kernel
theorem dX7_charges_32 : decode cX7_charges 32 = .ok (.iconst 4, 1) := by decide +kernel
theorem dX7_charges_33 : decode cX7_charges 33 = .ok (.invokevirtual 251, 3) := by decide +kernel
theorem dX7_charges_36 : decode cX7_charges 36 = .ok (.iload_n 2, 1) := by decide +kernel
theorem dX7_charges_37 : decode cX7_charges 37 = .ok (.iadd, 1) := by decide +kernel
theorem dX7_charges_38 : decode cX7_charges 38 = .ok (.invokestatic 260, 3) := by decide +kernel
theorem dX7_charges_41 : decode cX7_charges 41 = .ok (.invokevirtual 148, 3) := by decide +kernel
theorem dX7_charges_44 : decode cX7_charges 44 = .ok (.aload_n 0, 1) := by decide +kernel
theorem dX7_charges_45 : decode cX7_charges 45 = .ok (.iload_n 1, 1) := by decide +kernel
theorem dX7_charges_46 : decode cX7_charges 46 = .ok (.iconst 4, 1) := by decide +kernel
theorem dX7_charges_47 : decode cX7_charges 47 = .ok (.invokevirtual 251, 3) := by decide +kernel
theorem dX7_charges_50 : decode cX7_charges 50 = .ok (.ireturn, 1) := by decide +kernel
theorem dX7_charge_0 : decode cX7_charge 0 = .ok (.aload_n 0, 1) := by decide +kernel
theorem dX7_charge_1 : decode cX7_charge 1 = .ok (.aload_n 0, 1) := by decide +kernel
theorem dX7_charge_2 : decode cX7_charge 2 = .ok (.iload_n 1, 1) := by decide +kernel
theorem dX7_charge_3 : decode cX7_charge 3 = .ok (.invokevirtual 341, 3) := by decide +kernel
theorem dX7_charge_6 : decode cX7_charge 6 = .ok (.iload_n 2, 1) := by decide +kernel
theorem dX7_charge_7 : decode cX7_charge 7 = .ok (.invokestatic 445, 3) := by decide +kernel
theorem dX7_charge_10 : decode cX7_charge 10 = .ok (.invokevirtual 354, 3) := by decide +kernel
theorem dX7_charge_13 : decode cX7_charge 13 = .ok (.ifCond .ne 5, 3) := by decide +kernel
theorem dX7_charge_16 : decode cX7_charge 16 = .ok (.iconst 0, 1) := by decide +kernel
theorem dX7_charge_17 : decode cX7_charge 17 = .ok (.ireturn, 1) := by decide +kernel
theorem dX7_charge_18 : decode cX7_charge 18 = .ok (.aload_n 0, 1) := by decide +kernel
theorem dX7_charge_19 : decode cX7_charge 19 = .ok (.invokevirtual 242, 3) := by decide +kernel
theorem dX7_charge_22 : decode cX7_charge 22 = .ok (.aload_n 0, 1) := by decide +kernel
theorem dX7_charge_23 : decode cX7_charge 23 = .ok (.aload_n 0, 1) := by decide +kernel
theorem dX7_charge_24 : decode cX7_charge 24 = .ok (.iload_n 1, 1) := by decide +kernel
theorem dX7_charge_25 : decode cX7_charge 25 = .ok (.iload_n 2, 1) := by decide +kernel
theorem dX7_charge_26 : decode cX7_charge 26 = .ok (.invokevirtual 448, 3) := by decide +kernel
theorem dX7_charge_29 : decode cX7_charge 29 = .ok (.invokevirtual 426, 3) := by decide +kernel
theorem dX7_charge_32 : decode cX7_charge 32 = .ok (.ireturn, 1) := by decide +kernel
theorem dX7_setNear_0 : decode cX7_setNear 0 = .ok (.aload_n 0, 1) := by decide +kernel
theorem dX7_setNear_1 : decode cX7_setNear 1 = .ok (.aload_n 0, 1) := by decide +kernel
theorem dX7_setNear_2 : decode cX7_setNear 2 = .ok (.iload_n 1, 1) := by decide +kernel
theorem dX7_setNear_3 : decode cX7_setNear 3 = .ok (.iload_n 2, 1) := by decide +kernel
theorem dX7_setNear_4 : decode cX7_setNear 4 = .ok (.invokevirtual 370, 3) := by decide +kernel
theorem dX7_setNear_7 : decode cX7_setNear 7 = .ok (.iload_n 1, 1) := by decide +kernel
theorem dX7_setNear_8 : decode cX7_setNear 8 = .ok (.iload_n 2, 1) := by decide +kernel
theorem dX7_setNear_9 : decode cX7_setNear 9 = .ok (.if_icmp .eq 7, 3) := by decide +kernel
theorem dX7_setNear_12 : decode cX7_setNear 12 = .ok (.iconst 1, 1) := by decide +kernel
theorem dX7_setNear_13 : decode cX7_setNear 13 = .ok (.goto 4, 3) := by decide +kernel
theorem dX7_setNear_16 : decode cX7_setNear 16 = .ok (.iconst 0, 1) := by decide +kernel
theorem dX7_setNear_17 : decode cX7_setNear 17 = .ok (.invokevirtual 354, 3) := by decide +kernel
theorem dX7_setNear_20 : decode cX7_setNear 20 = .ok (.ifCond .eq 13, 3) := by decide +kernel
theorem dX7_setNear_23 : decode cX7_setNear 23 = .ok (.aload_n 0, 1) := by decide +kernel
theorem dX7_setNear_24 : decode cX7_setNear 24 = .ok (.iload_n 1, 1) := by decide +kernel
theorem dX7_setNear_25 : decode cX7_setNear 25 = .ok (.iload_n 2, 1) := by decide +kernel
theorem dX7_setNear_26 : decode cX7_setNear 26 = .ok (.invokevirtual 208, 3) := by decide +kernel
theorem dX7_setNear_29 : decode cX7_setNear 29 = .ok (.iload_n 3, 1) := by decide +kernel
theorem dX7_setNear_30 : decode cX7_setNear 30 = .ok (.if_icmp .ne 5, 3) := by decide +kernel
theorem dX7_setNear_33 : decode cX7_setNear 33 = .ok (.iconst 0, 1) := by decide +kernel
theorem dX7_setNear_34 : decode cX7_setNear 34 = .ok (.ireturn, 1) := by decide +kernel
theorem dX7_setNear_35 : decode cX7_setNear 35 = .ok (.aload_n 0, 1) := by decide +kernel
theorem dX7_setNear_36 : decode cX7_setNear 36 = .ok (.invokevirtual 242, 3) := by decide +kernel
theorem dX7_setNear_39 : decode cX7_setNear 39 = .ok (.aload_n 0, 1) := by decide +kernel
theorem dX7_setNear_40 : decode cX7_setNear 40 = .ok (.iload_n 1, 1) := by decide +kernel
theorem dX7_setNear_41 : decode cX7_setNear 41 = .ok (.iload_n 2, 1) := by decide +kernel
theorem dX7_setNear_42 : decode cX7_setNear 42 = .ok (.iload_n 3, 1) := by decide +kernel
theorem dX7_setNear_43 : decode cX7_setNear 43 = .ok (.invokevirtual 211, 3) := by decide +kernel
theorem dX7_setNear_46 : decode cX7_setNear 46 = .ok (.aload_n 0, 1) := by decide +kernel
theorem dX7_setNear_47 : decode cX7_setNear 47 = .ok (.invokevirtual 159, 3) := by decide +kernel
theorem dX7_setNear_50 : decode cX7_setNear 50 = .ok (.iconst 1, 1) := by decide +kernel
theorem dX7_setNear_51 : decode cX7_setNear 51 = .ok (.ireturn, 1) := by decide +kernel
theorem dX7_setTries_0 : decode cX7_setTries 0 = .ok (.aload_n 0, 1) := by decide +kernel
theorem dX7_setTries_1 : decode cX7_setTries 1 = .ok (.iload_n 1, 1) := by decide +kernel
theorem dX7_setTries_2 : decode cX7_setTries 2 = .ok (.i2l, 1) := by decide +kernel
theorem dX7_setTries_3 : decode cX7_setTries 3 = .ok (.lconst 1, 1) := by decide +kernel
theorem dX7_setTries_4 : decode cX7_setTries 4 = .ok (.ldc2_w 451, 3) := by decide +kernel
theorem dX7_setTries_7 : decode cX7_setTries 7 = .ok (.invokestatic 84, 3) := by decide +kernel
theorem dX7_setTries_10 : decode cX7_setTries 10 = .ok (.invokevirtual 76, 3) := by decide +kernel
theorem dX7_setTries_13 : decode cX7_setTries 13 = .ok (.ifCond .ne 5, 3) := by decide +kernel
theorem dX7_setTries_16 : decode cX7_setTries 16 = .ok (.iconst 0, 1) := by decide +kernel
theorem dX7_setTries_17 : decode cX7_setTries 17 = .ok (.ireturn, 1) := by decide +kernel
theorem dX7_setTries_18 : decode cX7_setTries 18 = .ok (.aload_n 0, 1) := by decide +kernel
theorem dX7_setTries_19 : decode cX7_setTries 19 = .ok (.invokevirtual 242, 3) := by decide +kernel
theorem dX7_setTries_22 : decode cX7_setTries 22 = .ok (.aload_n 0, 1) := by decide +kernel
theorem dX7_setTries_23 : decode cX7_setTries 23 = .ok (.aload_n 0, 1) := by decide +kernel
theorem dX7_setTries_24 : decode cX7_setTries 24 = .ok (.iconst 2, 1) := by decide +kernel
theorem dX7_setTries_25 : decode cX7_setTries 25 = .ok (.iload_n 1, 1) := by decide +kernel
theorem dX7_setTries_26 : decode cX7_setTries 26 = .ok (.invokevirtual 437, 3) := by decide +kernel
theorem dX7_setTries_29 : decode cX7_setTries 29 = .ok (.invokevirtual 426, 3) := by decide +kernel
theorem dX7_setTries_32 : decode cX7_setTries 32 = .ok (.ireturn, 1) := by decide +kernel
theorem dX7_commandHere_0 : decode cX7_commandHere 0 = .ok (.aload_n 0, 1) := by decide +kernel
theorem dX7_commandHere_1 : decode cX7_commandHere 1 = .ok (.ldc2_w 453, 3) := by decide +kernel
theorem dX7_commandHere_4 : decode cX7_commandHere 4 = .ok (.invokevirtual 134, 3) := by decide +kernel
theorem dX7_commandHere_7 : decode cX7_commandHere 7 = .ok (.ifCond .eq 5, 3) := by decide +kernel
theorem dX7_commandHere_10 : decode cX7_commandHere 10 = .ok (.iconst 0, 1) := by decide +kernel
theorem dX7_commandHere_11 : decode cX7_commandHere 11 = .ok (.ireturn, 1) := by decide +kernel
theorem dX7_commandHere_12 : decode cX7_commandHere 12 = .ok (.aload_n 0, 1) := by decide +kernel
theorem dX7_commandHere_13 : decode cX7_commandHere 13 = .ok (.ldc2_w 455, 3) := by decide +kernel
theorem dX7_commandHere_16 : decode cX7_commandHere 16 = .ok (.invokevirtual 134, 3) := by decide +kernel
theorem dX7_commandHere_19 : decode cX7_commandHere 19 = .ok (.ifCond .eq 5, 3) := by decide +kernel
theorem dX7_commandHere_22 : decode cX7_commandHere 22 = .ok (.iconst 1, 1) := by decide +kernel
theorem dX7_commandHere_23 : decode cX7_commandHere 23 = .ok (.ireturn, 1) := by decide +kernel
theorem dX7_commandHere_24 : decode cX7_commandHere 24 = .ok (.aload_n 0, 1) := by decide +kernel
theorem dX7_commandHere_25 : decode cX7_commandHere 25 = .ok (.ldc2_w 187, 3) := by decide +kernel
theorem dX7_commandHere_28 : decode cX7_commandHere 28 = .ok (.invokevirtual 134, 3) := by decide +kernel
theorem dX7_commandHere_31 : decode cX7_commandHere 31 = .ok (.ifCond .eq 5, 3) := by decide +kernel
theorem dX7_commandHere_34 : decode cX7_commandHere 34 = .ok (.iconst 2, 1) := by decide +kernel
theorem dX7_commandHere_35 : decode cX7_commandHere 35 = .ok (.ireturn, 1) := by decide +kernel
theorem dX7_commandHere_36 : decode cX7_commandHere 36 = .ok (.aload_n 0, 1) := by decide +kernel
theorem dX7_commandHere_37 : decode cX7_commandHere 37 = .ok (.ldc2_w 193, 3) := by decide +kernel
theorem dX7_commandHere_40 : decode cX7_commandHere 40 = .ok (.invokevirtual 134, 3) := by decide +kernel
theorem dX7_commandHere_43 : decode cX7_commandHere 43 = .ok (.ifCond .eq 5, 3) := by decide +kernel
theorem dX7_commandHere_46 : decode cX7_commandHere 46 = .ok (.iconst 3, 1) := by decide +kernel
theorem dX7_commandHere_47 : decode cX7_commandHere 47 = .ok (.ireturn, 1) := by decide +kernel
theorem dX7_commandHere_48 : decode cX7_commandHere 48 = .ok (.aload_n 0, 1) := by decide +kernel
theorem dX7_commandHere_49 : decode cX7_commandHere 49 = .ok (.ldc2_w 457, 3) := by decide +kernel
theorem dX7_commandHere_52 : decode cX7_commandHere 52 = .ok (.invokevirtual 134, 3) := by decide +kernel
theorem dX7_commandHere_55 : decode cX7_commandHere 55 = .ok (.ifCond .eq 5, 3) := by decide +kernel
theorem dX7_commandHere_58 : decode cX7_commandHere 58 = .ok (.iconst 4, 1) := by decide +kernel
theorem dX7_commandHere_59 : decode cX7_commandHere 59 = .ok (.ireturn, 1) := by decide +kernel
theorem dX7_commandHere_60 : decode cX7_commandHere 60 = .ok (.aload_n 0, 1) := by decide +kernel
theorem dX7_commandHere_61 : decode cX7_commandHere 61 = .ok (.ldc2_w 231, 3) := by decide +kernel
theorem dX7_commandHere_64 : decode cX7_commandHere 64 = .ok (.invokevirtual 134, 3) := by decide +kernel
theorem dX7_commandHere_67 : decode cX7_commandHere 67 = .ok (.ifCond .eq 5, 3) := by decide +kernel
theorem dX7_commandHere_70 : decode cX7_commandHere 70 = .ok (.iconst 5, 1) := by decide +kernel
theorem dX7_commandHere_71 : decode cX7_commandHere 71 = .ok (.ireturn, 1) := by decide +kernel
theorem dX7_commandHere_72 : decode cX7_commandHere 72 = .ok (.aload_n 0, 1) := by decide +kernel
theorem dX7_commandHere_73 : decode cX7_commandHere 73 = .ok (.ldc2_w 459, 3) := by decide +kernel
theorem dX7_commandHere_76 : decode cX7_commandHere 76 = .ok (.invokevirtual 134, 3) := by decide +kernel
theorem dX7_commandHere_79 : decode cX7_commandHere 79 = .ok (.ifCond .eq 6, 3) := by decide +kernel
theorem dX7_commandHere_82 : decode cX7_commandHere 82 = .ok (.bipush 6, 2) := by decide +kernel
theorem dX7_commandHere_84 : decode cX7_commandHere 84 = .ok (.ireturn, 1) := by decide +kernel
theorem dX7_commandHere_85 : decode cX7_commandHere 85 = .ok (.aload_n 0, 1) := by decide +kernel
theorem dX7_commandHere_86 : decode cX7_commandHere 86 = .ok (.ldc2_w 461, 3) := by decide +kernel
theorem dX7_commandHere_89 : decode cX7_commandHere 89 = .ok (.invokevirtual 134, 3) := by decide +kernel
theorem dX7_commandHere_92 : decode cX7_commandHere 92 = .ok (.ifCond .eq 8, 3) := by decide +kernel
theorem dX7_commandHere_95 : decode cX7_commandHere 95 = .ok (.bipush 7, 2) := by decide +kernel
theorem dX7_commandHere_97 : decode cX7_commandHere 97 = .ok (.goto 4, 3) := by decide +kernel
theorem dX7_commandHere_100 : decode cX7_commandHere 100 = .ok (.iconst (-1), 1) := by decide +kernel
theorem dX7_commandHere_101 : decode cX7_commandHere 101 = .ok (.ireturn, 1) := by decide +kernel
theorem dX7_any_0 : decode cX7_any 0 = .ok (.aload_n 0, 1) := by decide +kernel
theorem dX7_any_1 : decode cX7_any 1 = .ok (.iconst 0, 1) := by decide +kernel
theorem dX7_any_2 : decode cX7_any 2 = .ok (.sipush 999, 3) := by decide +kernel
theorem dX7_any_5 : decode cX7_any 5 = .ok (.invokevirtual 184, 3) := by decide +kernel
theorem dX7_any_8 : decode cX7_any 8 = .ok (.ireturn, 1) := by decide +kernel
theorem dX7_otherTold_0 : decode cX7_otherTold 0 = .ok (.aload_n 0, 1) := by decide +kernel
theorem dX7_otherTold_1 : decode cX7_otherTold 1 = .ok (.invokevirtual 170, 3) := by decide +kernel
theorem dX7_otherTold_4 : decode cX7_otherTold 4 = .ok (.aload_n 0, 1) := by decide +kernel
theorem dX7_otherTold_5 : decode cX7_otherTold 5 = .ok (.invokevirtual 121, 3) := by decide +kernel
theorem dX7_otherTold_8 : decode cX7_otherTold 8 = .ok (.ifCond .eq 16, 3) := by decide +kernel
theorem dX7_otherTold_11 : decode cX7_otherTold 11 = .ok (.aload_n 0, 1) := by decide +kernel
theorem dX7_otherTold_12 : decode cX7_otherTold 12 = .ok (.invokevirtual 173, 3) := by decide +kernel
theorem dX7_otherTold_15 : decode cX7_otherTold 15 = .ok (.iload_n 1, 1) := by decide +kernel
theorem dX7_otherTold_16 : decode cX7_otherTold 16 = .ok (.if_icmp .ne 8, 3) := by decide +kernel
theorem dX7_otherTold_19 : decode cX7_otherTold 19 = .ok (.aload_n 0, 1) := by decide +kernel
theorem dX7_otherTold_20 : decode cX7_otherTold 20 = .ok (.iconst 3, 1) := by decide +kernel
theorem dX7_otherTold_21 : decode cX7_otherTold 21 = .ok (.invokevirtual 128, 3) := by decide +kernel
theorem dX7_otherTold_24 : decode cX7_otherTold 24 = .ok (.aload_n 0, 1) := by decide +kernel
theorem dX7_otherTold_25 : decode cX7_otherTold 25 = .ok (.invokevirtual 205, 3) := by decide +kernel
theorem dX7_otherTold_28 : decode cX7_otherTold 28 = .ok (.ireturn, 1) := by decide +kernel
theorem dX7_readsNumbers_0 : decode cX7_readsNumbers 0 = .ok (.iload_n 2, 1) := by decide +kernel
theorem dX7_readsNumbers_1 : decode cX7_readsNumbers 1 = .ok (.ifCond .ne 13, 3) := by decide +kernel
theorem dX7_readsNumbers_4 : decode cX7_readsNumbers 4 = .ok (.aload_n 0, 1) := by decide +kernel
theorem dX7_readsNumbers_5 : decode cX7_readsNumbers 5 = .ok (.getfield 48, 3) := by decide +kernel
theorem dX7_readsNumbers_8 : decode cX7_readsNumbers 8 = .ok (.iload_n 1, 1) := by decide +kernel
theorem dX7_readsNumbers_9 : decode cX7_readsNumbers 9 = .ok (.aload_n 0, 1) := by decide +kernel
theorem dX7_readsNumbers_10 : decode cX7_readsNumbers 10 = .ok (.invokevirtual 463, 3) := by decide +kernel
theorem dX7_readsNumbers_13 : decode cX7_readsNumbers 13 = .ok (.iastore, 1) := by decide +kernel
theorem dX7_readsNumbers_14 : decode cX7_readsNumbers 14 = .ok (.iload_n 2, 1) := by decide +kernel
theorem dX7_readsNumbers_15 : decode cX7_readsNumbers 15 = .ok (.iconst 1, 1) := by decide +kernel
theorem dX7_readsNumbers_16 : decode cX7_readsNumbers 16 = .ok (.if_icmp .lt 19, 3) := by decide +kernel
theorem dX7_readsNumbers_19 : decode cX7_readsNumbers 19 = .ok (.iload_n 2, 1) := by decide +kernel
theorem dX7_readsNumbers_20 : decode cX7_readsNumbers 20 = .ok (.bipush 6, 2) := by decide +kernel
theorem dX7_readsNumbers_22 : decode cX7_readsNumbers 22 = .ok (.if_icmp .gt 13, 3) := by decide +kernel
theorem dX7_readsNumbers_25 : decode cX7_readsNumbers 25 = .ok (.aload_n 0, 1) := by decide +kernel
theorem dX7_readsNumbers_26 : decode cX7_readsNumbers 26 = .ok (.getfield 48, 3) := by decide +kernel
theorem dX7_readsNumbers_29 : decode cX7_readsNumbers 29 = .ok (.iload_n 1, 1) := by decide +kernel
theorem dX7_readsNumbers_30 : decode cX7_readsNumbers 30 = .ok (.aload_n 0, 1) := by decide +kernel
theorem dX7_readsNumbers_31 : decode cX7_readsNumbers 31 = .ok (.invokevirtual 205, 3) := by decide +kernel
theorem dX7_readsNumbers_34 : decode cX7_readsNumbers 34 = .ok (.iastore, 1) := by decide +kernel
theorem dX7_readsNumbers_35 : decode cX7_readsNumbers 35 = .ok (.iload_n 2, 1) := by decide +kernel
theorem dX7_readsNumbers_36 : decode cX7_readsNumbers 36 = .ok (.iconst 2, 1) := by decide +kernel
theorem dX7_readsNumbers_37 : decode cX7_readsNumbers 37 = .ok (.if_icmp .lt 18, 3) := by decide +kernel
theorem dX7_readsNumbers_40 : decode cX7_readsNumbers 40 = .ok (.iload_n 2, 1) := by decide +kernel
theorem dX7_readsNumbers_41 : decode cX7_readsNumbers 41 = .ok (.iconst 4, 1) := by decide +kernel
theorem dX7_readsNumbers_42 : decode cX7_readsNumbers 42 = .ok (.if_icmp .gt 13, 3) := by decide +kernel
theorem dX7_readsNumbers_45 : decode cX7_readsNumbers 45 = .ok (.aload_n 0, 1) := by decide +kernel
theorem dX7_readsNumbers_46 : decode cX7_readsNumbers 46 = .ok (.getfield 51, 3) := by decide +kernel
theorem dX7_readsNumbers_49 : decode cX7_readsNumbers 49 = .ok (.iload_n 1, 1) := by decide +kernel
theorem dX7_readsNumbers_50 : decode cX7_readsNumbers 50 = .ok (.aload_n 0, 1) := by decide +kernel
theorem dX7_readsNumbers_51 : decode cX7_readsNumbers 51 = .ok (.invokevirtual 463, 3) := by decide +kernel
theorem dX7_readsNumbers_54 : decode cX7_readsNumbers 54 = .ok (.iastore, 1) := by decide +kernel
theorem dX7_readsNumbers_55 : decode cX7_readsNumbers 55 = .ok (.iload_n 2, 1) := by decide +kernel
theorem dX7_readsNumbers_56 : decode cX7_readsNumbers 56 = .ok (.iconst 5, 1) := by decide +kernel
theorem dX7_readsNumbers_57 : decode cX7_readsNumbers 57 = .ok (.if_icmp .eq 9, 3) := by decide +kernel
theorem dX7_readsNumbers_60 : decode cX7_readsNumbers 60 = .ok (.iload_n 2, 1) := by decide +kernel
theorem dX7_readsNumbers_61 : decode cX7_readsNumbers 61 = .ok (.bipush 6, 2) := by decide +kernel
theorem dX7_readsNumbers_63 : decode cX7_readsNumbers 63 = .ok (.if_icmp .ne 19, 3) := by decide +kernel
theorem dX7_readsNumbers_66 : decode cX7_readsNumbers 66 = .ok (.aload_n 0, 1) := by decide +kernel
theorem dX7_readsNumbers_67 : decode cX7_readsNumbers 67 = .ok (.getfield 51, 3) := by decide +kernel
theorem dX7_readsNumbers_70 : decode cX7_readsNumbers 70 = .ok (.iload_n 1, 1) := by decide +kernel
theorem dX7_readsNumbers_71 : decode cX7_readsNumbers 71 = .ok (.aload_n 0, 1) := by decide +kernel
theorem dX7_readsNumbers_72 : decode cX7_readsNumbers 72 = .ok (.aload_n 0, 1) := by decide +kernel
theorem dX7_readsNumbers_73 : decode cX7_readsNumbers 73 = .ok (.getfield 48, 3) := by decide +kernel
theorem dX7_readsNumbers_76 : decode cX7_readsNumbers 76 = .ok (.iload_n 1, 1) := by decide +kernel
theorem dX7_readsNumbers_77 : decode cX7_readsNumbers 77 = .ok (.iaload, 1) := by decide +kernel
theorem dX7_readsNumbers_78 : decode cX7_readsNumbers 78 = .ok (.invokevirtual 466, 3) := by decide +kernel
theorem dX7_readsNumbers_81 : decode cX7_readsNumbers 81 = .ok (.iastore, 1) := by decide +kernel
theorem dX7_readsNumbers_82 : decode cX7_readsNumbers 82 = .ok (.iload_n 2, 1) := by decide +kernel
theorem dX7_readsNumbers_83 : decode cX7_readsNumbers 83 = .ok (.bipush 7, 2) := by decide +kernel
theorem dX7_readsNumbers_85 : decode cX7_readsNumbers 85 = .ok (.if_icmp .ne 16, 3) := by decide +kernel
theorem dX7_readsNumbers_88 : decode cX7_readsNumbers 88 = .ok (.aload_n 0, 1) := by decide +kernel
theorem dX7_readsNumbers_89 : decode cX7_readsNumbers 89 = .ok (.getfield 48, 3) := by decide +kernel
theorem dX7_readsNumbers_92 : decode cX7_readsNumbers 92 = .ok (.iload_n 1, 1) := by decide +kernel
theorem dX7_readsNumbers_93 : decode cX7_readsNumbers 93 = .ok (.aload_n 0, 1) := by decide +kernel
theorem dX7_readsNumbers_94 : decode cX7_readsNumbers 94 = .ok (.iconst 1, 1) := by decide +kernel
theorem dX7_readsNumbers_95 : decode cX7_readsNumbers 95 = .ok (.bipush 20, 2) := by decide +kernel
theorem dX7_readsNumbers_97 : decode cX7_readsNumbers 97 = .ok (.invokevirtual 184, 3) := by decide +kernel
theorem dX7_readsNumbers_100 : decode cX7_readsNumbers 100 = .ok (.iastore, 1) := by decide +kernel
theorem dX7_readsNumbers_101 : decode cX7_readsNumbers 101 = .ok (.iload_n 2, 1) := by decide +kernel
theorem dX7_readsNumbers_102 : decode cX7_readsNumbers 102 = .ok (.bipush 7, 2) := by decide +kernel
theorem dX7_readsNumbers_104 : decode cX7_readsNumbers 104 = .ok (.if_icmp .ne 9, 3) := by decide +kernel
theorem dX7_readsNumbers_107 : decode cX7_readsNumbers 107 = .ok (.aload_n 0, 1) := by decide +kernel
theorem dX7_readsNumbers_108 : decode cX7_readsNumbers 108 = .ok (.bipush 40, 2) := by decide +kernel
theorem dX7_readsNumbers_110 : decode cX7_readsNumbers 110 = .ok (.invokevirtual 236, 3) := by decide +kernel
theorem dX7_readsNumbers_113 : decode cX7_readsNumbers 113 = .ok (.return_, 1) := by decide +kernel
theorem dX7_command_0 : decode cX7_command 0 = .ok (.aload_n 0, 1) := by decide +kernel
theorem dX7_command_1 : decode cX7_command 1 = .ok (.invokevirtual 469, 3) := by decide +kernel
theorem dX7_command_4 : decode cX7_command 4 = .ok (.istore_n 1, 1) := by decide +kernel
theorem dX7_command_5 : decode cX7_command 5 = .ok (.iload_n 1, 1) := by decide +kernel
theorem dX7_command_6 : decode cX7_command 6 = .ok (.iconst (-1), 1) := by decide +kernel
theorem dX7_command_7 : decode cX7_command 7 = .ok (.if_icmp .ne 8, 3) := by decide +kernel
theorem dX7_command_10 : decode cX7_command 10 = .ok (.aload_n 0, 1) := by decide +kernel
theorem dX7_command_11 : decode cX7_command 11 = .ok (.iconst 1, 1) := by decide +kernel
theorem dX7_command_12 : decode cX7_command 12 = .ok (.invokevirtual 128, 3) := by decide +kernel
theorem dX7_command_15 : decode cX7_command 15 = .ok (.iload_n 1, 1) := by decide +kernel
theorem dX7_command_16 : decode cX7_command 16 = .ok (.bipush 7, 2) := by decide +kernel
theorem dX7_command_18 : decode cX7_command 18 = .ok (.if_icmp .ne 16, 3) := by decide +kernel
theorem dX7_command_21 : decode cX7_command 21 = .ok (.aload_n 0, 1) := by decide +kernel
theorem dX7_command_22 : decode cX7_command 22 = .ok (.getfield 472, 3) := by decide +kernel
theorem dX7_command_25 : decode cX7_command 25 = .ok (.iconst 2, 1) := by decide +kernel
theorem dX7_command_26 : decode cX7_command 26 = .ok (.if_icmp .ne 8, 3) := by decide +kernel
theorem dX7_command_29 : decode cX7_command 29 = .ok (.aload_n 0, 1) := by decide +kernel
theorem dX7_command_30 : decode cX7_command 30 = .ok (.iconst 3, 1) := by decide +kernel
theorem dX7_command_31 : decode cX7_command 31 = .ok (.invokevirtual 128, 3) := by decide +kernel
theorem dX7_command_34 : decode cX7_command 34 = .ok (.aload_n 0, 1) := by decide +kernel
theorem dX7_command_35 : decode cX7_command 35 = .ok (.getfield 475, 3) := by decide +kernel
theorem dX7_command_38 : decode cX7_command 38 = .ok (.bipush 30, 2) := by decide +kernel
theorem dX7_command_40 : decode cX7_command 40 = .ok (.if_icmp .ne 8, 3) := by decide +kernel
theorem dX7_command_43 : decode cX7_command 43 = .ok (.aload_n 0, 1) := by decide +kernel
theorem dX7_command_44 : decode cX7_command 44 = .ok (.iconst 5, 1) := by decide +kernel
theorem dX7_command_45 : decode cX7_command 45 = .ok (.invokevirtual 128, 3) := by decide +kernel
theorem dX7_command_48 : decode cX7_command 48 = .ok (.aload_n 0, 1) := by decide +kernel
theorem dX7_command_49 : decode cX7_command 49 = .ok (.invokevirtual 121, 3) := by decide +kernel
theorem dX7_command_52 : decode cX7_command 52 = .ok (.ifCond .ne 4, 3) := by decide +kernel
theorem dX7_command_55 : decode cX7_command 55 = .ok (.return_, 1) := by decide +kernel
theorem dX7_command_56 : decode cX7_command 56 = .ok (.aload_n 0, 1) := by decide +kernel
theorem dX7_command_57 : decode cX7_command 57 = .ok (.dup, 1) := by decide +kernel
theorem dX7_command_58 : decode cX7_command 58 = .ok (.getfield 475, 3) := by decide +kernel
theorem dX7_command_61 : decode cX7_command 61 = .ok (.iconst 1, 1) := by decide +kernel
theorem dX7_command_62 : decode cX7_command 62 = .ok (.iadd, 1) := by decide +kernel
theorem dX7_command_63 : decode cX7_command 63 = .ok (.putfield 475, 3) := by decide +kernel
theorem dX7_command_66 : decode cX7_command 66 = .ok (.aload_n 0, 1) := by decide +kernel
theorem dX7_command_67 : decode cX7_command 67 = .ok (.invokevirtual 131, 3) := by decide +kernel
theorem dX7_command_70 : decode cX7_command 70 = .ok (.aload_n 0, 1) := by decide +kernel
theorem dX7_command_71 : decode cX7_command 71 = .ok (.getfield 478, 3) := by decide +kernel
theorem dX7_command_74 : decode cX7_command 74 = .ok (.istore_n 2, 1) := by decide +kernel
theorem dX7_command_75 : decode cX7_command 75 = .ok (.aload_n 0, 1) := by decide +kernel
theorem dX7_command_76 : decode cX7_command 76 = .ok (.getfield 45, 3) := by decide +kernel
theorem dX7_command_79 : decode cX7_command 79 = .ok (.iload_n 2, 1) := by decide +kernel
theorem dX7_command_80 : decode cX7_command 80 = .ok (.iload_n 1, 1) := by decide +kernel
theorem dX7_command_81 : decode cX7_command 81 = .ok (.iastore, 1) := by decide +kernel
theorem dX7_command_82 : decode cX7_command 82 = .ok (.aload_n 0, 1) := by decide +kernel
theorem dX7_command_83 : decode cX7_command 83 = .ok (.iload_n 2, 1) := by decide +kernel
theorem dX7_command_84 : decode cX7_command 84 = .ok (.iload_n 1, 1) := by decide +kernel
theorem dX7_command_85 : decode cX7_command 85 = .ok (.invokevirtual 481, 3) := by decide +kernel
theorem dX7_command_88 : decode cX7_command 88 = .ok (.aload_n 0, 1) := by decide +kernel
theorem dX7_command_89 : decode cX7_command 89 = .ok (.invokevirtual 121, 3) := by decide +kernel
theorem dX7_command_92 : decode cX7_command 92 = .ok (.ifCond .ne 4, 3) := by decide +kernel
theorem dX7_command_95 : decode cX7_command 95 = .ok (.return_, 1) := by decide +kernel
theorem dX7_command_96 : decode cX7_command 96 = .ok (.aload_n 0, 1) := by decide +kernel
theorem dX7_command_97 : decode cX7_command 97 = .ok (.dup, 1) := by decide +kernel
theorem dX7_command_98 : decode cX7_command 98 = .ok (.getfield 478, 3) := by decide +kernel
theorem dX7_command_101 : decode cX7_command 101 = .ok (.iconst 1, 1) := by decide +kernel
theorem dX7_command_102 : decode cX7_command 102 = .ok (.iadd, 1) := by decide +kernel
theorem dX7_command_103 : decode cX7_command 103 = .ok (.putfield 478, 3) := by decide +kernel
theorem dX7_command_106 : decode cX7_command 106 = .ok (.aload_n 0, 1) := by decide +kernel
theorem dX7_command_107 : decode cX7_command 107 = .ok (.dup, 1) := by decide +kernel
theorem dX7_command_108 : decode cX7_command 108 = .ok (.getfield 472, 3) := by decide +kernel
theorem dX7_command_111 : decode cX7_command 111 = .ok (.iload_n 1, 1) := by decide +kernel
theorem dX7_command_112 : decode cX7_command 112 = .ok (.bipush 7, 2) := by decide +kernel
theorem dX7_command_114 : decode cX7_command 114 = .ok (.if_icmp .ne 7, 3) := by decide +kernel
theorem dX7_command_117 : decode cX7_command 117 = .ok (.iconst 1, 1) := by decide +kernel
theorem dX7_command_118 : decode cX7_command 118 = .ok (.goto 4, 3) := by decide +kernel
theorem dX7_command_121 : decode cX7_command 121 = .ok (.iconst 0, 1) := by decide +kernel
theorem dX7_command_122 : decode cX7_command 122 = .ok (.invokestatic 69, 3) := by decide +kernel
theorem dX7_command_125 : decode cX7_command 125 = .ok (.iadd, 1) := by decide +kernel
theorem dX7_command_126 : decode cX7_command 126 = .ok (.putfield 472, 3) := by decide +kernel
theorem dX7_command_129 : decode cX7_command 129 = .ok (.return_, 1) := by decide +kernel
theorem dX7_closes_0 : decode cX7_closes 0 = .ok (.aload_n 0, 1) := by decide +kernel
theorem dX7_closes_1 : decode cX7_closes 1 = .ok (.getfield 472, 3) := by decide +kernel
theorem dX7_closes_4 : decode cX7_closes 4 = .ok (.ifCond .le 56, 3) := by decide +kernel
theorem dX7_closes_7 : decode cX7_closes 7 = .ok (.aload_n 0, 1) := by decide +kernel
theorem dX7_closes_8 : decode cX7_closes 8 = .ok (.bipush 41, 2) := by decide +kernel
theorem dX7_closes_10 : decode cX7_closes 10 = .ok (.invokevirtual 125, 3) := by decide +kernel
theorem dX7_closes_13 : decode cX7_closes 13 = .ok (.ifCond .eq 47, 3) := by decide +kernel
theorem dX7_closes_16 : decode cX7_closes 16 = .ok (.aload_n 0, 1) := by decide +kernel
theorem dX7_closes_17 : decode cX7_closes 17 = .ok (.dup, 1) := by decide +kernel
theorem dX7_closes_18 : decode cX7_closes 18 = .ok (.getfield 472, 3) := by decide +kernel
theorem dX7_closes_21 : decode cX7_closes 21 = .ok (.iconst 1, 1) := by decide +kernel
theorem dX7_closes_22 : decode cX7_closes 22 = .ok (.isub, 1) := by decide +kernel
theorem dX7_closes_23 : decode cX7_closes 23 = .ok (.putfield 472, 3) := by decide +kernel
theorem dX7_closes_26 : decode cX7_closes 26 = .ok (.aload_n 0, 1) := by decide +kernel
theorem dX7_closes_27 : decode cX7_closes 27 = .ok (.getfield 45, 3) := by decide +kernel
theorem dX7_closes_30 : decode cX7_closes 30 = .ok (.aload_n 0, 1) := by decide +kernel
theorem dX7_closes_31 : decode cX7_closes 31 = .ok (.getfield 478, 3) := by decide +kernel
theorem dX7_closes_34 : decode cX7_closes 34 = .ok (.bipush 8, 2) := by decide +kernel
theorem dX7_closes_36 : decode cX7_closes 36 = .ok (.iastore, 1) := by decide +kernel
theorem dX7_closes_37 : decode cX7_closes 37 = .ok (.aload_n 0, 1) := by decide +kernel
theorem dX7_closes_38 : decode cX7_closes 38 = .ok (.dup, 1) := by decide +kernel
theorem dX7_closes_39 : decode cX7_closes 39 = .ok (.getfield 478, 3) := by decide +kernel
theorem dX7_closes_42 : decode cX7_closes 42 = .ok (.iconst 1, 1) := by decide +kernel
theorem dX7_closes_43 : decode cX7_closes 43 = .ok (.iadd, 1) := by decide +kernel
theorem dX7_closes_44 : decode cX7_closes 44 = .ok (.putfield 478, 3) := by decide +kernel
theorem dX7_closes_47 : decode cX7_closes 47 = .ok (.aload_n 0, 1) := by decide +kernel
theorem dX7_closes_48 : decode cX7_closes 48 = .ok (.invokevirtual 131, 3) := by decide +kernel
theorem dX7_closes_51 : decode cX7_closes 51 = .ok (.aload_n 0, 1) := by decide +kernel
theorem dX7_closes_52 : decode cX7_closes 52 = .ok (.bipush 59, 2) := by decide +kernel
theorem dX7_closes_54 : decode cX7_closes 54 = .ok (.invokevirtual 236, 3) := by decide +kernel
theorem dX7_closes_57 : decode cX7_closes 57 = .ok (.goto (-57), 3) := by decide +kernel
theorem dX7_closes_60 : decode cX7_closes 60 = .ok (.return_, 1) := by decide +kernel
theorem dX7_may_0 : decode cX7_may 0 = .ok (.aload_n 0, 1) := by decide +kernel
theorem dX7_may_1 : decode cX7_may 1 = .ok (.getfield 48, 3) := by decide +kernel
theorem dX7_may_4 : decode cX7_may 4 = .ok (.iload_n 1, 1) := by decide +kernel
theorem dX7_may_5 : decode cX7_may 5 = .ok (.iaload, 1) := by decide +kernel
theorem dX7_may_6 : decode cX7_may 6 = .ok (.istore_n 2, 1) := by decide +kernel
theorem dX7_may_7 : decode cX7_may 7 = .ok (.aload_n 0, 1) := by decide +kernel
theorem dX7_may_8 : decode cX7_may 8 = .ok (.getfield 51, 3) := by decide +kernel
theorem dX7_may_11 : decode cX7_may 11 = .ok (.iload_n 1, 1) := by decide +kernel
theorem dX7_may_12 : decode cX7_may 12 = .ok (.iaload, 1) := by decide +kernel
theorem dX7_may_13 : decode cX7_may 13 = .ok (.istore_n 3, 1) := by decide +kernel
theorem dX7_may_14 : decode cX7_may 14 = .ok (.aload_n 0, 1) := by decide +kernel
theorem dX7_may_15 : decode cX7_may 15 = .ok (.getfield 45, 3) := by decide +kernel
theorem dX7_may_18 : decode cX7_may 18 = .ok (.iload_n 1, 1) := by decide +kernel
theorem dX7_may_19 : decode cX7_may 19 = .ok (.iaload, 1) := by decide +kernel
theorem dX7_may_20 : decode cX7_may 20 = .ok (.tableswitch 102 0 5 #[40, 61, 68, 75, 82, 87], 40) := by decide +kernel
theorem dX7_may_60 : decode cX7_may 60 = .ok (.iload_n 2, 1) := by decide +kernel
theorem dX7_may_61 : decode cX7_may 61 = .ok (.invokestatic 420, 3) := by decide +kernel
theorem dX7_may_64 : decode cX7_may 64 = .ok (.ifCond .eq 15, 3) := by decide +kernel
theorem dX7_may_67 : decode cX7_may 67 = .ok (.aload_n 0, 1) := by decide +kernel
theorem dX7_may_68 : decode cX7_may 68 = .ok (.iload_n 2, 1) := by decide +kernel
theorem dX7_may_69 : decode cX7_may 69 = .ok (.invokevirtual 423, 3) := by decide +kernel
theorem dX7_may_72 : decode cX7_may 72 = .ok (.ifCond .eq 7, 3) := by decide +kernel
theorem dX7_may_75 : decode cX7_may 75 = .ok (.iconst 1, 1) := by decide +kernel
theorem dX7_may_76 : decode cX7_may 76 = .ok (.goto 4, 3) := by decide +kernel
theorem dX7_may_79 : decode cX7_may 79 = .ok (.iconst 0, 1) := by decide +kernel
theorem dX7_may_80 : decode cX7_may 80 = .ok (.ireturn, 1) := by decide +kernel
theorem dX7_may_81 : decode cX7_may 81 = .ok (.aload_n 0, 1) := by decide +kernel
theorem dX7_may_82 : decode cX7_may 82 = .ok (.iload_n 2, 1) := by decide +kernel
theorem dX7_may_83 : decode cX7_may 83 = .ok (.iconst 0, 1) := by decide +kernel
theorem dX7_may_84 : decode cX7_may 84 = .ok (.invokevirtual 297, 3) := by decide +kernel
theorem dX7_may_87 : decode cX7_may 87 = .ok (.ireturn, 1) := by decide +kernel
theorem dX7_may_88 : decode cX7_may 88 = .ok (.aload_n 0, 1) := by decide +kernel
theorem dX7_may_89 : decode cX7_may 89 = .ok (.iload_n 2, 1) := by decide +kernel
theorem dX7_may_90 : decode cX7_may 90 = .ok (.iload_n 3, 1) := by decide +kernel
theorem dX7_may_91 : decode cX7_may 91 = .ok (.invokevirtual 434, 3) := by decide +kernel
theorem dX7_may_94 : decode cX7_may 94 = .ok (.ireturn, 1) := by decide +kernel
theorem dX7_may_95 : decode cX7_may 95 = .ok (.aload_n 0, 1) := by decide +kernel
theorem dX7_may_96 : decode cX7_may 96 = .ok (.iload_n 2, 1) := by decide +kernel
theorem dX7_may_97 : decode cX7_may 97 = .ok (.iload_n 3, 1) := by decide +kernel
theorem dX7_may_98 : decode cX7_may 98 = .ok (.invokevirtual 440, 3) := by decide +kernel
theorem dX7_may_101 : decode cX7_may 101 = .ok (.ireturn, 1) := by decide +kernel
theorem dX7_may_102 : decode cX7_may 102 = .ok (.iload_n 3, 1) := by decide +kernel
theorem dX7_may_103 : decode cX7_may 103 = .ok (.invokestatic 445, 3) := by decide +kernel
theorem dX7_may_106 : decode cX7_may 106 = .ok (.ireturn, 1) := by decide +kernel
theorem dX7_may_107 : decode cX7_may 107 = .ok (.aload_n 0, 1) := by decide +kernel
theorem dX7_may_108 : decode cX7_may 108 = .ok (.iload_n 2, 1) := by decide +kernel
theorem dX7_may_109 : decode cX7_may 109 = .ok (.iload_n 3, 1) := by decide +kernel
theorem dX7_may_110 : decode cX7_may 110 = .ok (.invokevirtual 208, 3) := by decide +kernel
theorem dX7_may_113 : decode cX7_may 113 = .ok (.ifCond .ne 7, 3) := by decide +kernel
theorem dX7_may_116 : decode cX7_may 116 = .ok (.iconst 1, 1) := by decide +kernel
theorem dX7_may_117 : decode cX7_may 117 = .ok (.goto 4, 3) := by decide +kernel
theorem dX7_may_120 : decode cX7_may 120 = .ok (.iconst 0, 1) := by decide +kernel
theorem dX7_may_121 : decode cX7_may 121 = .ok (.ireturn, 1) := by decide +kernel
theorem dX7_may_122 : decode cX7_may 122 = .ok (.aload_n 0, 1) := by decide +kernel
theorem dX7_may_123 : decode cX7_may 123 = .ok (.iload_n 2, 1) := by decide +kernel
theorem dX7_may_124 : decode cX7_may 124 = .ok (.iload_n 3, 1) := by decide +kernel
theorem dX7_may_125 : decode cX7_may 125 = .ok (.invokevirtual 208, 3) := by decide +kernel
theorem dX7_may_128 : decode cX7_may 128 = .ok (.ireturn, 1) := by decide +kernel
theorem dX7_does_0 : decode cX7_does 0 = .ok (.aload_n 0, 1) := by decide +kernel
theorem dX7_does_1 : decode cX7_does 1 = .ok (.getfield 48, 3) := by decide +kernel
theorem dX7_does_4 : decode cX7_does 4 = .ok (.iload_n 1, 1) := by decide +kernel
theorem dX7_does_5 : decode cX7_does 5 = .ok (.iaload, 1) := by decide +kernel
theorem dX7_does_6 : decode cX7_does 6 = .ok (.istore_n 2, 1) := by decide +kernel
theorem dX7_does_7 : decode cX7_does 7 = .ok (.aload_n 0, 1) := by decide +kernel
theorem dX7_does_8 : decode cX7_does 8 = .ok (.getfield 51, 3) := by decide +kernel
theorem dX7_does_11 : decode cX7_does 11 = .ok (.iload_n 1, 1) := by decide +kernel
theorem dX7_does_12 : decode cX7_does 12 = .ok (.iaload, 1) := by decide +kernel
theorem dX7_does_13 : decode cX7_does 13 = .ok (.istore_n 3, 1) := by decide +kernel
theorem dX7_does_14 : decode cX7_does 14 = .ok (.aload_n 0, 1) := by decide +kernel
theorem dX7_does_15 : decode cX7_does 15 = .ok (.getfield 45, 3) := by decide +kernel
theorem dX7_does_18 : decode cX7_does 18 = .ok (.iload_n 1, 1) := by decide +kernel
theorem dX7_does_19 : decode cX7_does 19 = .ok (.iaload, 1) := by decide +kernel
theorem dX7_does_20 : decode cX7_does 20 = .ok (.tableswitch 77 0 4 #[36, 42, 48, 59, 70], 36) := by decide +kernel
theorem dX7_does_56 : decode cX7_does 56 = .ok (.aload_n 0, 1) := by decide +kernel
theorem dX7_does_57 : decode cX7_does 57 = .ok (.iload_n 2, 1) := by decide +kernel
theorem dX7_does_58 : decode cX7_does 58 = .ok (.invokevirtual 387, 3) := by decide +kernel
theorem dX7_does_61 : decode cX7_does 61 = .ok (.ireturn, 1) := by decide +kernel
theorem dX7_does_62 : decode cX7_does 62 = .ok (.aload_n 0, 1) := by decide +kernel
theorem dX7_does_63 : decode cX7_does 63 = .ok (.iload_n 2, 1) := by decide +kernel
theorem dX7_does_64 : decode cX7_does 64 = .ok (.invokevirtual 429, 3) := by decide +kernel
theorem dX7_does_67 : decode cX7_does 67 = .ok (.ireturn, 1) := by decide +kernel
theorem dX7_does_68 : decode cX7_does 68 = .ok (.aload_n 0, 1) := by decide +kernel
theorem dX7_does_69 : decode cX7_does 69 = .ok (.iload_n 2, 1) := by decide +kernel
theorem dX7_does_70 : decode cX7_does 70 = .ok (.iconst 0, 1) := by decide +kernel
theorem dX7_does_71 : decode cX7_does 71 = .ok (.invokestatic 145, 3) := by decide +kernel
theorem dX7_does_74 : decode cX7_does 74 = .ok (.iload_n 3, 1) := by decide +kernel
theorem dX7_does_75 : decode cX7_does 75 = .ok (.invokevirtual 437, 3) := by decide +kernel
theorem dX7_does_78 : decode cX7_does 78 = .ok (.ireturn, 1) := by decide +kernel
theorem dX7_does_79 : decode cX7_does 79 = .ok (.aload_n 0, 1) := by decide +kernel
theorem dX7_does_80 : decode cX7_does 80 = .ok (.iload_n 2, 1) := by decide +kernel
theorem dX7_does_81 : decode cX7_does 81 = .ok (.iconst 1, 1) := by decide +kernel
theorem dX7_does_82 : decode cX7_does 82 = .ok (.invokestatic 145, 3) := by decide +kernel
theorem dX7_does_85 : decode cX7_does 85 = .ok (.iload_n 3, 1) := by decide +kernel
theorem dX7_does_86 : decode cX7_does 86 = .ok (.invokevirtual 437, 3) := by decide +kernel
theorem dX7_does_89 : decode cX7_does 89 = .ok (.ireturn, 1) := by decide +kernel
theorem dX7_does_90 : decode cX7_does 90 = .ok (.aload_n 0, 1) := by decide +kernel
theorem dX7_does_91 : decode cX7_does 91 = .ok (.iload_n 2, 1) := by decide +kernel
theorem dX7_does_92 : decode cX7_does 92 = .ok (.iload_n 3, 1) := by decide +kernel
theorem dX7_does_93 : decode cX7_does 93 = .ok (.invokevirtual 448, 3) := by decide +kernel
theorem dX7_does_96 : decode cX7_does 96 = .ok (.ireturn, 1) := by decide +kernel
theorem dX7_does_97 : decode cX7_does 97 = .ok (.aload_n 0, 1) := by decide +kernel
theorem dX7_does_98 : decode cX7_does 98 = .ok (.iload_n 2, 1) := by decide +kernel
theorem dX7_does_99 : decode cX7_does 99 = .ok (.iload_n 3, 1) := by decide +kernel
theorem dX7_does_100 : decode cX7_does 100 = .ok (.aload_n 0, 1) := by decide +kernel
theorem dX7_does_101 : decode cX7_does 101 = .ok (.getfield 45, 3) := by decide +kernel
theorem dX7_does_104 : decode cX7_does 104 = .ok (.iload_n 1, 1) := by decide +kernel
theorem dX7_does_105 : decode cX7_does 105 = .ok (.iaload, 1) := by decide +kernel
theorem dX7_does_106 : decode cX7_does 106 = .ok (.iconst 5, 1) := by decide +kernel
theorem dX7_does_107 : decode cX7_does 107 = .ok (.if_icmp .ne 7, 3) := by decide +kernel
theorem dX7_does_110 : decode cX7_does 110 = .ok (.iconst 1, 1) := by decide +kernel
theorem dX7_does_111 : decode cX7_does 111 = .ok (.goto 4, 3) := by decide +kernel
theorem dX7_does_114 : decode cX7_does 114 = .ok (.iconst 0, 1) := by decide +kernel
theorem dX7_does_115 : decode cX7_does 115 = .ok (.invokevirtual 211, 3) := by decide +kernel
theorem dX7_does_118 : decode cX7_does 118 = .ok (.iconst 1, 1) := by decide +kernel
theorem dX7_does_119 : decode cX7_does 119 = .ok (.ireturn, 1) := by decide +kernel
theorem dX7_runScript_0 : decode cX7_runScript 0 = .ok (.aload_n 0, 1) := by decide +kernel
theorem dX7_runScript_1 : decode cX7_runScript 1 = .ok (.invokevirtual 239, 3) := by decide +kernel
theorem dX7_runScript_4 : decode cX7_runScript 4 = .ok (.aload_n 0, 1) := by decide +kernel
theorem dX7_runScript_5 : decode cX7_runScript 5 = .ok (.iconst 0, 1) := by decide +kernel
theorem dX7_runScript_6 : decode cX7_runScript 6 = .ok (.putfield 478, 3) := by decide +kernel
theorem dX7_runScript_9 : decode cX7_runScript 9 = .ok (.aload_n 0, 1) := by decide +kernel
theorem dX7_runScript_10 : decode cX7_runScript 10 = .ok (.iconst 0, 1) := by decide +kernel
theorem dX7_runScript_11 : decode cX7_runScript 11 = .ok (.putfield 475, 3) := by decide +kernel
theorem dX7_runScript_14 : decode cX7_runScript 14 = .ok (.aload_n 0, 1) := by decide +kernel
theorem dX7_runScript_15 : decode cX7_runScript 15 = .ok (.iconst 0, 1) := by decide +kernel
theorem dX7_runScript_16 : decode cX7_runScript 16 = .ok (.putfield 472, 3) := by decide +kernel
theorem dX7_runScript_19 : decode cX7_runScript 19 = .ok (.aload_n 0, 1) := by decide +kernel
theorem dX7_runScript_20 : decode cX7_runScript 20 = .ok (.invokevirtual 121, 3) := by decide +kernel
theorem dX7_runScript_23 : decode cX7_runScript 23 = .ok (.ifCond .eq 40, 3) := by decide +kernel
theorem dX7_runScript_26 : decode cX7_runScript 26 = .ok (.aload_n 0, 1) := by decide +kernel
theorem dX7_runScript_27 : decode cX7_runScript 27 = .ok (.getfield 108, 3) := by decide +kernel
theorem dX7_runScript_30 : decode cX7_runScript 30 = .ok (.ifCond .eq 33, 3) := by decide +kernel
theorem dX7_runScript_33 : decode cX7_runScript 33 = .ok (.aload_n 0, 1) := by decide +kernel
theorem dX7_runScript_34 : decode cX7_runScript 34 = .ok (.getfield 472, 3) := by decide +kernel
theorem dX7_runScript_37 : decode cX7_runScript 37 = .ok (.istore_n 1, 1) := by decide +kernel
theorem dX7_runScript_38 : decode cX7_runScript 38 = .ok (.aload_n 0, 1) := by decide +kernel
theorem dX7_runScript_39 : decode cX7_runScript 39 = .ok (.invokevirtual 484, 3) := by decide +kernel
theorem dX7_runScript_42 : decode cX7_runScript 42 = .ok (.aload_n 0, 1) := by decide +kernel
theorem dX7_runScript_43 : decode cX7_runScript 43 = .ok (.getfield 472, 3) := by decide +kernel
theorem dX7_runScript_46 : decode cX7_runScript 46 = .ok (.iload_n 1, 1) := by decide +kernel
theorem dX7_runScript_47 : decode cX7_runScript 47 = .ok (.if_icmp .ne 9, 3) := by decide +kernel
theorem dX7_runScript_50 : decode cX7_runScript 50 = .ok (.aload_n 0, 1) := by decide +kernel
theorem dX7_runScript_51 : decode cX7_runScript 51 = .ok (.bipush 59, 2) := by decide +kernel
theorem dX7_runScript_53 : decode cX7_runScript 53 = .ok (.invokevirtual 236, 3) := by decide +kernel
theorem dX7_runScript_56 : decode cX7_runScript 56 = .ok (.aload_n 0, 1) := by decide +kernel
theorem dX7_runScript_57 : decode cX7_runScript 57 = .ok (.invokevirtual 487, 3) := by decide +kernel
theorem dX7_runScript_60 : decode cX7_runScript 60 = .ok (.goto (-41), 3) := by decide +kernel
theorem dX7_runScript_63 : decode cX7_runScript 63 = .ok (.aload_n 0, 1) := by decide +kernel
theorem dX7_runScript_64 : decode cX7_runScript 64 = .ok (.invokevirtual 121, 3) := by decide +kernel
theorem dX7_runScript_67 : decode cX7_runScript 67 = .ok (.ifCond .eq 15, 3) := by decide +kernel
theorem dX7_runScript_70 : decode cX7_runScript 70 = .ok (.aload_n 0, 1) := by decide +kernel
theorem dX7_runScript_71 : decode cX7_runScript 71 = .ok (.getfield 472, 3) := by decide +kernel
theorem dX7_runScript_74 : decode cX7_runScript 74 = .ok (.ifCond .le 8, 3) := by decide +kernel
theorem dX7_runScript_77 : decode cX7_runScript 77 = .ok (.aload_n 0, 1) := by decide +kernel
theorem dX7_runScript_78 : decode cX7_runScript 78 = .ok (.iconst 1, 1) := by decide +kernel
theorem dX7_runScript_79 : decode cX7_runScript 79 = .ok (.invokevirtual 128, 3) := by decide +kernel
theorem dX7_runScript_82 : decode cX7_runScript 82 = .ok (.aload_n 0, 1) := by decide +kernel
theorem dX7_runScript_83 : decode cX7_runScript 83 = .ok (.invokevirtual 248, 3) := by decide +kernel
theorem dX7_runScript_86 : decode cX7_runScript 86 = .ok (.ifCond .ne 5, 3) := by decide +kernel
theorem dX7_runScript_89 : decode cX7_runScript 89 = .ok (.iconst 0, 1) := by decide +kernel
theorem dX7_runScript_90 : decode cX7_runScript 90 = .ok (.ireturn, 1) := by decide +kernel
theorem dX7_runScript_91 : decode cX7_runScript 91 = .ok (.aload_n 0, 1) := by decide +kernel
theorem dX7_runScript_92 : decode cX7_runScript 92 = .ok (.invokevirtual 242, 3) := by decide +kernel
theorem dX7_runScript_95 : decode cX7_runScript 95 = .ok (.aload_n 0, 1) := by decide +kernel
theorem dX7_runScript_96 : decode cX7_runScript 96 = .ok (.invokevirtual 490, 3) := by decide +kernel
theorem dX7_runScript_99 : decode cX7_runScript 99 = .ok (.istore_n 1, 1) := by decide +kernel
theorem dX7_runScript_100 : decode cX7_runScript 100 = .ok (.aload_n 0, 1) := by decide +kernel
theorem dX7_runScript_101 : decode cX7_runScript 101 = .ok (.invokevirtual 159, 3) := by decide +kernel
theorem dX7_runScript_104 : decode cX7_runScript 104 = .ok (.iload_n 1, 1) := by decide +kernel
theorem dX7_runScript_105 : decode cX7_runScript 105 = .ok (.ireturn, 1) := by decide +kernel
theorem dX7_doesAll_0 : decode cX7_doesAll 0 = .ok (.iconst 0, 1) := by decide +kernel
theorem dX7_doesAll_1 : decode cX7_doesAll 1 = .ok (.istore_n 1, 1) := by decide +kernel
theorem dX7_doesAll_2 : decode cX7_doesAll 2 = .ok (.iconst 0, 1) := by decide +kernel
theorem dX7_doesAll_3 : decode cX7_doesAll 3 = .ok (.istore_n 2, 1) := by decide +kernel
theorem dX7_doesAll_4 : decode cX7_doesAll 4 = .ok (.iconst 0, 1) := by decide +kernel
theorem dX7_doesAll_5 : decode cX7_doesAll 5 = .ok (.istore_n 3, 1) := by decide +kernel
theorem dX7_doesAll_6 : decode cX7_doesAll 6 = .ok (.iconst 1, 1) := by decide +kernel
theorem dX7_doesAll_7 : decode cX7_doesAll 7 = .ok (.istore 4, 2) := by decide +kernel
theorem dX7_doesAll_9 : decode cX7_doesAll 9 = .ok (.iload 4, 2) := by decide +kernel
theorem dX7_doesAll_11 : decode cX7_doesAll 11 = .ok (.ifCond .eq 175, 3) := by decide +kernel
theorem dX7_doesAll_14 : decode cX7_doesAll 14 = .ok (.iload_n 3, 1) := by decide +kernel
theorem dX7_doesAll_15 : decode cX7_doesAll 15 = .ok (.aload_n 0, 1) := by decide +kernel
theorem dX7_doesAll_16 : decode cX7_doesAll 16 = .ok (.getfield 478, 3) := by decide +kernel
theorem dX7_doesAll_19 : decode cX7_doesAll 19 = .ok (.if_icmp .ge 167, 3) := by decide +kernel
theorem dX7_doesAll_22 : decode cX7_doesAll 22 = .ok (.iload_n 1, 1) := by decide +kernel
theorem dX7_doesAll_23 : decode cX7_doesAll 23 = .ok (.bipush 40, 2) := by decide +kernel
theorem dX7_doesAll_25 : decode cX7_doesAll 25 = .ok (.if_icmp .ge 161, 3) := by decide +kernel
theorem dX7_doesAll_28 : decode cX7_doesAll 28 = .ok (.aload_n 0, 1) := by decide +kernel
theorem dX7_doesAll_29 : decode cX7_doesAll 29 = .ok (.getfield 45, 3) := by decide +kernel
theorem dX7_doesAll_32 : decode cX7_doesAll 32 = .ok (.iload_n 3, 1) := by decide +kernel
theorem dX7_doesAll_33 : decode cX7_doesAll 33 = .ok (.iaload, 1) := by decide +kernel
theorem dX7_doesAll_34 : decode cX7_doesAll 34 = .ok (.bipush 7, 2) := by decide +kernel
theorem dX7_doesAll_36 : decode cX7_doesAll 36 = .ok (.if_icmp .ne 31, 3) := by decide +kernel
theorem dX7_doesAll_39 : decode cX7_doesAll 39 = .ok (.aload_n 0, 1) := by decide +kernel
theorem dX7_doesAll_40 : decode cX7_doesAll 40 = .ok (.getfield 54, 3) := by decide +kernel
theorem dX7_doesAll_43 : decode cX7_doesAll 43 = .ok (.iload_n 2, 1) := by decide +kernel
theorem dX7_doesAll_44 : decode cX7_doesAll 44 = .ok (.iload_n 3, 1) := by decide +kernel
theorem dX7_doesAll_45 : decode cX7_doesAll 45 = .ok (.iastore, 1) := by decide +kernel
theorem dX7_doesAll_46 : decode cX7_doesAll 46 = .ok (.aload_n 0, 1) := by decide +kernel
theorem dX7_doesAll_47 : decode cX7_doesAll 47 = .ok (.getfield 57, 3) := by decide +kernel
theorem dX7_doesAll_50 : decode cX7_doesAll 50 = .ok (.iload_n 2, 1) := by decide +kernel
theorem dX7_doesAll_51 : decode cX7_doesAll 51 = .ok (.aload_n 0, 1) := by decide +kernel
theorem dX7_doesAll_52 : decode cX7_doesAll 52 = .ok (.getfield 48, 3) := by decide +kernel
theorem dX7_doesAll_55 : decode cX7_doesAll 55 = .ok (.iload_n 3, 1) := by decide +kernel
theorem dX7_doesAll_56 : decode cX7_doesAll 56 = .ok (.iaload, 1) := by decide +kernel
theorem dX7_doesAll_57 : decode cX7_doesAll 57 = .ok (.iastore, 1) := by decide +kernel
theorem dX7_doesAll_58 : decode cX7_doesAll 58 = .ok (.iinc 2 1, 3) := by decide +kernel
theorem dX7_doesAll_61 : decode cX7_doesAll 61 = .ok (.iinc 3 1, 3) := by decide +kernel
theorem dX7_doesAll_64 : decode cX7_doesAll 64 = .ok (.goto (-55), 3) := by decide +kernel
theorem dX7_doesAll_67 : decode cX7_doesAll 67 = .ok (.aload_n 0, 1) := by decide +kernel
theorem dX7_doesAll_68 : decode cX7_doesAll 68 = .ok (.getfield 45, 3) := by decide +kernel
theorem dX7_doesAll_71 : decode cX7_doesAll 71 = .ok (.iload_n 3, 1) := by decide +kernel
theorem dX7_doesAll_72 : decode cX7_doesAll 72 = .ok (.iaload, 1) := by decide +kernel
theorem dX7_doesAll_73 : decode cX7_doesAll 73 = .ok (.bipush 8, 2) := by decide +kernel
theorem dX7_doesAll_75 : decode cX7_doesAll 75 = .ok (.if_icmp .ne 74, 3) := by decide +kernel
theorem dX7_doesAll_78 : decode cX7_doesAll 78 = .ok (.aload_n 0, 1) := by decide +kernel
theorem dX7_doesAll_79 : decode cX7_doesAll 79 = .ok (.getfield 57, 3) := by decide +kernel
theorem dX7_doesAll_82 : decode cX7_doesAll 82 = .ok (.iload_n 2, 1) := by decide +kernel
theorem dX7_doesAll_83 : decode cX7_doesAll 83 = .ok (.iconst 1, 1) := by decide +kernel
theorem dX7_doesAll_84 : decode cX7_doesAll 84 = .ok (.isub, 1) := by decide +kernel
theorem dX7_doesAll_85 : decode cX7_doesAll 85 = .ok (.dup2, 1) := by decide +kernel
theorem dX7_doesAll_86 : decode cX7_doesAll 86 = .ok (.iaload, 1) := by decide +kernel
theorem dX7_doesAll_87 : decode cX7_doesAll 87 = .ok (.iconst 1, 1) := by decide +kernel
theorem dX7_doesAll_88 : decode cX7_doesAll 88 = .ok (.isub, 1) := by decide +kernel
theorem dX7_doesAll_89 : decode cX7_doesAll 89 = .ok (.iastore, 1) := by decide +kernel
theorem dX7_doesAll_90 : decode cX7_doesAll 90 = .ok (.aload_n 0, 1) := by decide +kernel
theorem dX7_doesAll_91 : decode cX7_doesAll 91 = .ok (.getfield 57, 3) := by decide +kernel
theorem dX7_doesAll_94 : decode cX7_doesAll 94 = .ok (.iload_n 2, 1) := by decide +kernel
theorem dX7_doesAll_95 : decode cX7_doesAll 95 = .ok (.iconst 1, 1) := by decide +kernel
theorem dX7_doesAll_96 : decode cX7_doesAll 96 = .ok (.isub, 1) := by decide +kernel
theorem dX7_doesAll_97 : decode cX7_doesAll 97 = .ok (.iaload, 1) := by decide +kernel
theorem dX7_doesAll_98 : decode cX7_doesAll 98 = .ok (.ifCond .le 7, 3) := by decide +kernel
theorem dX7_doesAll_101 : decode cX7_doesAll 101 = .ok (.iconst 1, 1) := by decide +kernel
theorem dX7_doesAll_102 : decode cX7_doesAll 102 = .ok (.goto 4, 3) := by decide +kernel
theorem dX7_doesAll_105 : decode cX7_doesAll 105 = .ok (.iconst 0, 1) := by decide +kernel
theorem dX7_doesAll_106 : decode cX7_doesAll 106 = .ok (.istore 5, 2) := by decide +kernel
theorem dX7_doesAll_108 : decode cX7_doesAll 108 = .ok (.iload 5, 2) := by decide +kernel
theorem dX7_doesAll_110 : decode cX7_doesAll 110 = .ok (.ifCond .eq 16, 3) := by decide +kernel
theorem dX7_doesAll_113 : decode cX7_doesAll 113 = .ok (.aload_n 0, 1) := by decide +kernel
theorem dX7_doesAll_114 : decode cX7_doesAll 114 = .ok (.getfield 54, 3) := by decide +kernel
theorem dX7_doesAll_117 : decode cX7_doesAll 117 = .ok (.iload_n 2, 1) := by decide +kernel
theorem dX7_doesAll_118 : decode cX7_doesAll 118 = .ok (.iconst 1, 1) := by decide +kernel
theorem dX7_doesAll_119 : decode cX7_doesAll 119 = .ok (.isub, 1) := by decide +kernel
theorem dX7_doesAll_120 : decode cX7_doesAll 120 = .ok (.iaload, 1) := by decide +kernel
theorem dX7_doesAll_121 : decode cX7_doesAll 121 = .ok (.iconst 1, 1) := by decide +kernel
theorem dX7_doesAll_122 : decode cX7_doesAll 122 = .ok (.iadd, 1) := by decide +kernel
theorem dX7_doesAll_123 : decode cX7_doesAll 123 = .ok (.goto 6, 3) := by decide +kernel
theorem dX7_doesAll_126 : decode cX7_doesAll 126 = .ok (.iload_n 3, 1) := by decide +kernel
theorem dX7_doesAll_127 : decode cX7_doesAll 127 = .ok (.iconst 1, 1) := by decide +kernel
theorem dX7_doesAll_128 : decode cX7_doesAll 128 = .ok (.iadd, 1) := by decide +kernel
theorem dX7_doesAll_129 : decode cX7_doesAll 129 = .ok (.istore_n 3, 1) := by decide +kernel
theorem dX7_doesAll_130 : decode cX7_doesAll 130 = .ok (.iload_n 2, 1) := by decide +kernel
theorem dX7_doesAll_131 : decode cX7_doesAll 131 = .ok (.iload 5, 2) := by decide +kernel
theorem dX7_doesAll_133 : decode cX7_doesAll 133 = .ok (.ifCond .ne 7, 3) := by decide +kernel
theorem dX7_doesAll_136 : decode cX7_doesAll 136 = .ok (.iconst 1, 1) := by decide +kernel
theorem dX7_doesAll_137 : decode cX7_doesAll 137 = .ok (.goto 4, 3) := by decide +kernel
theorem dX7_doesAll_140 : decode cX7_doesAll 140 = .ok (.iconst 0, 1) := by decide +kernel
theorem dX7_doesAll_141 : decode cX7_doesAll 141 = .ok (.invokestatic 69, 3) := by decide +kernel
theorem dX7_doesAll_144 : decode cX7_doesAll 144 = .ok (.isub, 1) := by decide +kernel
theorem dX7_doesAll_145 : decode cX7_doesAll 145 = .ok (.istore_n 2, 1) := by decide +kernel
theorem dX7_doesAll_146 : decode cX7_doesAll 146 = .ok (.goto (-137), 3) := by decide +kernel
theorem dX7_doesAll_149 : decode cX7_doesAll 149 = .ok (.aload_n 0, 1) := by decide +kernel
theorem dX7_doesAll_150 : decode cX7_doesAll 150 = .ok (.iload_n 3, 1) := by decide +kernel
theorem dX7_doesAll_151 : decode cX7_doesAll 151 = .ok (.invokevirtual 493, 3) := by decide +kernel
theorem dX7_doesAll_154 : decode cX7_doesAll 154 = .ok (.istore 4, 2) := by decide +kernel
theorem dX7_doesAll_156 : decode cX7_doesAll 156 = .ok (.iload 4, 2) := by decide +kernel
theorem dX7_doesAll_158 : decode cX7_doesAll 158 = .ok (.ifCond .eq 11, 3) := by decide +kernel
theorem dX7_doesAll_161 : decode cX7_doesAll 161 = .ok (.aload_n 0, 1) := by decide +kernel
theorem dX7_doesAll_162 : decode cX7_doesAll 162 = .ok (.iload_n 3, 1) := by decide +kernel
theorem dX7_doesAll_163 : decode cX7_doesAll 163 = .ok (.invokevirtual 496, 3) := by decide +kernel
theorem dX7_doesAll_166 : decode cX7_doesAll 166 = .ok (.goto 4, 3) := by decide +kernel
theorem dX7_doesAll_169 : decode cX7_doesAll 169 = .ok (.iconst 0, 1) := by decide +kernel
theorem dX7_doesAll_170 : decode cX7_doesAll 170 = .ok (.istore 5, 2) := by decide +kernel
theorem dX7_doesAll_172 : decode cX7_doesAll 172 = .ok (.iload_n 1, 1) := by decide +kernel
theorem dX7_doesAll_173 : decode cX7_doesAll 173 = .ok (.iload 4, 2) := by decide +kernel
theorem dX7_doesAll_175 : decode cX7_doesAll 175 = .ok (.invokestatic 69, 3) := by decide +kernel
theorem dX7_doesAll_178 : decode cX7_doesAll 178 = .ok (.iadd, 1) := by decide +kernel
theorem dX7_doesAll_179 : decode cX7_doesAll 179 = .ok (.istore_n 1, 1) := by decide +kernel
theorem dX7_doesAll_180 : decode cX7_doesAll 180 = .ok (.iinc 3 1, 3) := by decide +kernel
theorem dX7_doesAll_183 : decode cX7_doesAll 183 = .ok (.goto (-174), 3) := by decide +kernel
theorem dX7_doesAll_186 : decode cX7_doesAll 186 = .ok (.iload_n 1, 1) := by decide +kernel
theorem dX7_doesAll_187 : decode cX7_doesAll 187 = .ok (.ireturn, 1) := by decide +kernel
theorem dX7_tell_0 : decode cX7_tell 0 = .ok (.aload_n 0, 1) := by decide +kernel
theorem dX7_tell_1 : decode cX7_tell 1 = .ok (.getfield 60, 3) := by decide +kernel
theorem dX7_tell_4 : decode cX7_tell 4 = .ok (.aload_n 0, 1) := by decide +kernel
theorem dX7_tell_5 : decode cX7_tell 5 = .ok (.getfield 499, 3) := by decide +kernel
theorem dX7_tell_8 : decode cX7_tell 8 = .ok (.iload_n 1, 1) := by decide +kernel
theorem dX7_tell_9 : decode cX7_tell 9 = .ok (.iastore, 1) := by decide +kernel
theorem dX7_tell_10 : decode cX7_tell 10 = .ok (.aload_n 0, 1) := by decide +kernel
theorem dX7_tell_11 : decode cX7_tell 11 = .ok (.dup, 1) := by decide +kernel
theorem dX7_tell_12 : decode cX7_tell 12 = .ok (.getfield 499, 3) := by decide +kernel
theorem dX7_tell_15 : decode cX7_tell 15 = .ok (.iconst 1, 1) := by decide +kernel
theorem dX7_tell_16 : decode cX7_tell 16 = .ok (.iadd, 1) := by decide +kernel
theorem dX7_tell_17 : decode cX7_tell 17 = .ok (.putfield 499, 3) := by decide +kernel
theorem dX7_tell_20 : decode cX7_tell 20 = .ok (.return_, 1) := by decide +kernel
theorem dX7_tellNumber_0 : decode cX7_tellNumber 0 = .ok (.iconst 1, 1) := by decide +kernel
theorem dX7_tellNumber_1 : decode cX7_tellNumber 1 = .ok (.istore_n 2, 1) := by decide +kernel
theorem dX7_tellNumber_2 : decode cX7_tellNumber 2 = .ok (.iload_n 1, 1) := by decide +kernel
theorem dX7_tellNumber_3 : decode cX7_tellNumber 3 = .ok (.iload_n 2, 1) := by decide +kernel
theorem dX7_tellNumber_4 : decode cX7_tellNumber 4 = .ok (.idiv, 1) := by decide +kernel
theorem dX7_tellNumber_5 : decode cX7_tellNumber 5 = .ok (.bipush 9, 2) := by decide +kernel
theorem dX7_tellNumber_7 : decode cX7_tellNumber 7 = .ok (.if_icmp .le 11, 3) := by decide +kernel
theorem dX7_tellNumber_10 : decode cX7_tellNumber 10 = .ok (.iload_n 2, 1) := by decide +kernel
theorem dX7_tellNumber_11 : decode cX7_tellNumber 11 = .ok (.bipush 10, 2) := by decide +kernel
theorem dX7_tellNumber_13 : decode cX7_tellNumber 13 = .ok (.imul, 1) := by decide +kernel
theorem dX7_tellNumber_14 : decode cX7_tellNumber 14 = .ok (.istore_n 2, 1) := by decide +kernel
theorem dX7_tellNumber_15 : decode cX7_tellNumber 15 = .ok (.goto (-13), 3) := by decide +kernel
theorem dX7_tellNumber_18 : decode cX7_tellNumber 18 = .ok (.iload_n 2, 1) := by decide +kernel
theorem dX7_tellNumber_19 : decode cX7_tellNumber 19 = .ok (.istore_n 3, 1) := by decide +kernel
theorem dX7_tellNumber_20 : decode cX7_tellNumber 20 = .ok (.iload_n 3, 1) := by decide +kernel
theorem dX7_tellNumber_21 : decode cX7_tellNumber 21 = .ok (.ifCond .le 24, 3) := by decide +kernel
theorem dX7_tellNumber_24 : decode cX7_tellNumber 24 = .ok (.aload_n 0, 1) := by decide +kernel
theorem dX7_tellNumber_25 : decode cX7_tellNumber 25 = .ok (.bipush 48, 2) := by decide +kernel
theorem dX7_tellNumber_27 : decode cX7_tellNumber 27 = .ok (.iload_n 1, 1) := by decide +kernel
theorem dX7_tellNumber_28 : decode cX7_tellNumber 28 = .ok (.iload_n 3, 1) := by decide +kernel
theorem dX7_tellNumber_29 : decode cX7_tellNumber 29 = .ok (.idiv, 1) := by decide +kernel
theorem dX7_tellNumber_30 : decode cX7_tellNumber 30 = .ok (.bipush 10, 2) := by decide +kernel
theorem dX7_tellNumber_32 : decode cX7_tellNumber 32 = .ok (.irem, 1) := by decide +kernel
theorem dX7_tellNumber_33 : decode cX7_tellNumber 33 = .ok (.iadd, 1) := by decide +kernel
theorem dX7_tellNumber_34 : decode cX7_tellNumber 34 = .ok (.invokevirtual 502, 3) := by decide +kernel
theorem dX7_tellNumber_37 : decode cX7_tellNumber 37 = .ok (.iload_n 3, 1) := by decide +kernel
theorem dX7_tellNumber_38 : decode cX7_tellNumber 38 = .ok (.bipush 10, 2) := by decide +kernel
theorem dX7_tellNumber_40 : decode cX7_tellNumber 40 = .ok (.idiv, 1) := by decide +kernel
theorem dX7_tellNumber_41 : decode cX7_tellNumber 41 = .ok (.istore_n 3, 1) := by decide +kernel
theorem dX7_tellNumber_42 : decode cX7_tellNumber 42 = .ok (.goto (-22), 3) := by decide +kernel
theorem dX7_tellNumber_45 : decode cX7_tellNumber 45 = .ok (.return_, 1) := by decide +kernel
theorem dX7_tellName_0 : decode cX7_tellName 0 = .ok (.iconst 0, 1) := by decide +kernel
theorem dX7_tellName_1 : decode cX7_tellName 1 = .ok (.istore_n 3, 1) := by decide +kernel
theorem dX7_tellName_2 : decode cX7_tellName 2 = .ok (.iload_n 3, 1) := by decide +kernel
theorem dX7_tellName_3 : decode cX7_tellName 3 = .ok (.lload_n 1, 1) := by decide +kernel
theorem dX7_tellName_4 : decode cX7_tellName 4 = .ok (.invokestatic 360, 3) := by decide +kernel
theorem dX7_tellName_7 : decode cX7_tellName 7 = .ok (.if_icmp .ge 18, 3) := by decide +kernel
theorem dX7_tellName_10 : decode cX7_tellName 10 = .ok (.aload_n 0, 1) := by decide +kernel
theorem dX7_tellName_11 : decode cX7_tellName 11 = .ok (.lload_n 1, 1) := by decide +kernel
theorem dX7_tellName_12 : decode cX7_tellName 12 = .ok (.iload_n 3, 1) := by decide +kernel
theorem dX7_tellName_13 : decode cX7_tellName 13 = .ok (.invokestatic 366, 3) := by decide +kernel
theorem dX7_tellName_16 : decode cX7_tellName 16 = .ok (.invokevirtual 502, 3) := by decide +kernel
theorem dX7_tellName_19 : decode cX7_tellName 19 = .ok (.iinc 3 1, 3) := by decide +kernel
theorem dX7_tellName_22 : decode cX7_tellName 22 = .ok (.goto (-20), 3) := by decide +kernel
theorem dX7_tellName_25 : decode cX7_tellName 25 = .ok (.return_, 1) := by decide +kernel
theorem dX7_wordOf_0 : decode cX7_wordOf 0 = .ok (.iload_n 1, 1) := by decide +kernel
theorem dX7_wordOf_1 : decode cX7_wordOf 1 = .ok (.tableswitch 47 0 3 #[31, 35, 39, 43], 31) := by decide +kernel
theorem dX7_wordOf_32 : decode cX7_wordOf 32 = .ok (.ldc2_w 505, 3) := by decide +kernel
theorem dX7_wordOf_35 : decode cX7_wordOf 35 = .ok (.lreturn, 1) := by decide +kernel
theorem dX7_wordOf_36 : decode cX7_wordOf 36 = .ok (.ldc2_w 199, 3) := by decide +kernel
theorem dX7_wordOf_39 : decode cX7_wordOf 39 = .ok (.lreturn, 1) := by decide +kernel
theorem dX7_wordOf_40 : decode cX7_wordOf 40 = .ok (.ldc2_w 507, 3) := by decide +kernel
theorem dX7_wordOf_43 : decode cX7_wordOf 43 = .ok (.lreturn, 1) := by decide +kernel
theorem dX7_wordOf_44 : decode cX7_wordOf 44 = .ok (.ldc2_w 201, 3) := by decide +kernel
theorem dX7_wordOf_47 : decode cX7_wordOf 47 = .ok (.lreturn, 1) := by decide +kernel
theorem dX7_wordOf_48 : decode cX7_wordOf 48 = .ok (.ldc2_w 509, 3) := by decide +kernel
theorem dX7_wordOf_51 : decode cX7_wordOf 51 = .ok (.lreturn, 1) := by decide +kernel
theorem dX7_tellBeacon_0 : decode cX7_tellBeacon 0 = .ok (.aload_n 0, 1) := by decide +kernel
theorem dX7_tellBeacon_1 : decode cX7_tellBeacon 1 = .ok (.aload_n 0, 1) := by decide +kernel
theorem dX7_tellBeacon_2 : decode cX7_tellBeacon 2 = .ok (.getfield 35, 3) := by decide +kernel
theorem dX7_tellBeacon_5 : decode cX7_tellBeacon 5 = .ok (.iload_n 1, 1) := by decide +kernel
theorem dX7_tellBeacon_6 : decode cX7_tellBeacon 6 = .ok (.laload, 1) := by decide +kernel
theorem dX7_tellBeacon_7 : decode cX7_tellBeacon 7 = .ok (.invokevirtual 511, 3) := by decide +kernel
theorem dX7_tellBeacon_10 : decode cX7_tellBeacon 10 = .ok (.aload_n 0, 1) := by decide +kernel
theorem dX7_tellBeacon_11 : decode cX7_tellBeacon 11 = .ok (.bipush 32, 2) := by decide +kernel
theorem dX7_tellBeacon_13 : decode cX7_tellBeacon 13 = .ok (.invokevirtual 502, 3) := by decide +kernel
theorem dX7_tellBeacon_16 : decode cX7_tellBeacon 16 = .ok (.aload_n 0, 1) := by decide +kernel
theorem dX7_tellBeacon_17 : decode cX7_tellBeacon 17 = .ok (.aload_n 0, 1) := by decide +kernel
theorem dX7_tellBeacon_18 : decode cX7_tellBeacon 18 = .ok (.aload_n 0, 1) := by decide +kernel
theorem dX7_tellBeacon_19 : decode cX7_tellBeacon 19 = .ok (.iload_n 1, 1) := by decide +kernel
theorem dX7_tellBeacon_20 : decode cX7_tellBeacon 20 = .ok (.iconst 5, 1) := by decide +kernel
theorem dX7_tellBeacon_21 : decode cX7_tellBeacon 21 = .ok (.invokevirtual 251, 3) := by decide +kernel
theorem dX7_tellBeacon_24 : decode cX7_tellBeacon 24 = .ok (.invokevirtual 514, 3) := by decide +kernel
theorem dX7_tellBeacon_27 : decode cX7_tellBeacon 27 = .ok (.invokevirtual 511, 3) := by decide +kernel
theorem dX7_tellBeacon_30 : decode cX7_tellBeacon 30 = .ok (.aload_n 0, 1) := by decide +kernel
theorem dX7_tellBeacon_31 : decode cX7_tellBeacon 31 = .ok (.bipush 32, 2) := by decide +kernel
theorem dX7_tellBeacon_33 : decode cX7_tellBeacon 33 = .ok (.invokevirtual 502, 3) := by decide +kernel
theorem dX7_tellBeacon_36 : decode cX7_tellBeacon 36 = .ok (.aload_n 0, 1) := by decide +kernel
theorem dX7_tellBeacon_37 : decode cX7_tellBeacon 37 = .ok (.aload_n 0, 1) := by decide +kernel
theorem dX7_tellBeacon_38 : decode cX7_tellBeacon 38 = .ok (.iload_n 1, 1) := by decide +kernel
theorem dX7_tellBeacon_39 : decode cX7_tellBeacon 39 = .ok (.bipush 6, 2) := by decide +kernel
theorem dX7_tellBeacon_41 : decode cX7_tellBeacon 41 = .ok (.invokevirtual 251, 3) := by decide +kernel
theorem dX7_tellBeacon_44 : decode cX7_tellBeacon 44 = .ok (.invokevirtual 518, 3) := by decide +kernel
theorem dX7_tellBeacon_47 : decode cX7_tellBeacon 47 = .ok (.aload_n 0, 1) := by decide +kernel
theorem dX7_tellBeacon_48 : decode cX7_tellBeacon 48 = .ok (.bipush 32, 2) := by decide +kernel
theorem dX7_tellBeacon_50 : decode cX7_tellBeacon 50 = .ok (.invokevirtual 502, 3) := by decide +kernel
theorem dX7_tellBeacon_53 : decode cX7_tellBeacon 53 = .ok (.aload_n 0, 1) := by decide +kernel
theorem dX7_tellBeacon_54 : decode cX7_tellBeacon 54 = .ok (.aload_n 0, 1) := by decide +kernel
theorem dX7_tellBeacon_55 : decode cX7_tellBeacon 55 = .ok (.iload_n 1, 1) := by decide +kernel
theorem dX7_tellBeacon_56 : decode cX7_tellBeacon 56 = .ok (.iconst 4, 1) := by decide +kernel
theorem dX7_tellBeacon_57 : decode cX7_tellBeacon 57 = .ok (.invokevirtual 251, 3) := by decide +kernel
theorem dX7_tellBeacon_60 : decode cX7_tellBeacon 60 = .ok (.invokevirtual 518, 3) := by decide +kernel
theorem dX7_tellBeacon_63 : decode cX7_tellBeacon 63 = .ok (.iconst 0, 1) := by decide +kernel
theorem dX7_tellBeacon_64 : decode cX7_tellBeacon 64 = .ok (.istore_n 2, 1) := by decide +kernel
theorem dX7_tellBeacon_65 : decode cX7_tellBeacon 65 = .ok (.iload_n 2, 1) := by decide +kernel
theorem dX7_tellBeacon_66 : decode cX7_tellBeacon 66 = .ok (.aload_n 0, 1) := by decide +kernel
theorem dX7_tellBeacon_67 : decode cX7_tellBeacon 67 = .ok (.getfield 20, 3) := by decide +kernel
theorem dX7_tellBeacon_70 : decode cX7_tellBeacon 70 = .ok (.iconst 0, 1) := by decide +kernel
theorem dX7_tellBeacon_71 : decode cX7_tellBeacon 71 = .ok (.iaload, 1) := by decide +kernel
theorem dX7_tellBeacon_72 : decode cX7_tellBeacon 72 = .ok (.if_icmp .ge 43, 3) := by decide +kernel
theorem dX7_tellBeacon_75 : decode cX7_tellBeacon 75 = .ok (.aload_n 0, 1) := by decide +kernel
theorem dX7_tellBeacon_76 : decode cX7_tellBeacon 76 = .ok (.iload_n 1, 1) := by decide +kernel
theorem dX7_tellBeacon_77 : decode cX7_tellBeacon 77 = .ok (.iload_n 2, 1) := by decide +kernel
theorem dX7_tellBeacon_78 : decode cX7_tellBeacon 78 = .ok (.invokevirtual 254, 3) := by decide +kernel
theorem dX7_tellBeacon_81 : decode cX7_tellBeacon 81 = .ok (.ifCond .ne 6, 3) := by decide +kernel
theorem dX7_tellBeacon_84 : decode cX7_tellBeacon 84 = .ok (.goto 25, 3) := by decide +kernel
theorem dX7_tellBeacon_87 : decode cX7_tellBeacon 87 = .ok (.aload_n 0, 1) := by decide +kernel
theorem dX7_tellBeacon_88 : decode cX7_tellBeacon 88 = .ok (.bipush 32, 2) := by decide +kernel
theorem dX7_tellBeacon_90 : decode cX7_tellBeacon 90 = .ok (.invokevirtual 502, 3) := by decide +kernel
theorem dX7_tellBeacon_93 : decode cX7_tellBeacon 93 = .ok (.aload_n 0, 1) := by decide +kernel
theorem dX7_tellBeacon_94 : decode cX7_tellBeacon 94 = .ok (.bipush 43, 2) := by decide +kernel
theorem dX7_tellBeacon_96 : decode cX7_tellBeacon 96 = .ok (.invokevirtual 502, 3) := by decide +kernel
theorem dX7_tellBeacon_99 : decode cX7_tellBeacon 99 = .ok (.aload_n 0, 1) := by decide +kernel
theorem dX7_tellBeacon_100 : decode cX7_tellBeacon 100 = .ok (.aload_n 0, 1) := by decide +kernel
theorem dX7_tellBeacon_101 : decode cX7_tellBeacon 101 = .ok (.getfield 35, 3) := by decide +kernel
theorem dX7_tellBeacon_104 : decode cX7_tellBeacon 104 = .ok (.iload_n 2, 1) := by decide +kernel
theorem dX7_tellBeacon_105 : decode cX7_tellBeacon 105 = .ok (.laload, 1) := by decide +kernel
theorem dX7_tellBeacon_106 : decode cX7_tellBeacon 106 = .ok (.invokevirtual 511, 3) := by decide +kernel
theorem dX7_tellBeacon_109 : decode cX7_tellBeacon 109 = .ok (.iinc 2 1, 3) := by decide +kernel
theorem dX7_tellBeacon_112 : decode cX7_tellBeacon 112 = .ok (.goto (-47), 3) := by decide +kernel
theorem dX7_tellBeacon_115 : decode cX7_tellBeacon 115 = .ok (.aload_n 0, 1) := by decide +kernel
theorem dX7_tellBeacon_116 : decode cX7_tellBeacon 116 = .ok (.bipush 10, 2) := by decide +kernel
theorem dX7_tellBeacon_118 : decode cX7_tellBeacon 118 = .ok (.invokevirtual 502, 3) := by decide +kernel
theorem dX7_tellBeacon_121 : decode cX7_tellBeacon 121 = .ok (.return_, 1) := by decide +kernel
theorem dX7_report_0 : decode cX7_report 0 = .ok (.aload_n 0, 1) := by decide +kernel
theorem dX7_report_1 : decode cX7_report 1 = .ok (.iconst 0, 1) := by decide +kernel
theorem dX7_report_2 : decode cX7_report 2 = .ok (.putfield 66, 3) := by decide +kernel
theorem dX7_report_5 : decode cX7_report 5 = .ok (.aload_n 0, 1) := by decide +kernel
theorem dX7_report_6 : decode cX7_report 6 = .ok (.iconst 0, 1) := by decide +kernel
theorem dX7_report_7 : decode cX7_report 7 = .ok (.putfield 499, 3) := by decide +kernel
theorem dX7_report_10 : decode cX7_report 10 = .ok (.aload_n 0, 1) := by decide +kernel
theorem dX7_report_11 : decode cX7_report 11 = .ok (.iconst 1, 1) := by decide +kernel
theorem dX7_report_12 : decode cX7_report 12 = .ok (.putfield 521, 3) := by decide +kernel
theorem dX7_report_15 : decode cX7_report 15 = .ok (.iconst 0, 1) := by decide +kernel
theorem dX7_report_16 : decode cX7_report 16 = .ok (.istore_n 1, 1) := by decide +kernel
theorem dX7_report_17 : decode cX7_report 17 = .ok (.iload_n 1, 1) := by decide +kernel
theorem dX7_report_18 : decode cX7_report 18 = .ok (.aload_n 0, 1) := by decide +kernel
theorem dX7_report_19 : decode cX7_report 19 = .ok (.getfield 20, 3) := by decide +kernel
theorem dX7_report_22 : decode cX7_report 22 = .ok (.iconst 0, 1) := by decide +kernel
theorem dX7_report_23 : decode cX7_report 23 = .ok (.iaload, 1) := by decide +kernel
theorem dX7_report_24 : decode cX7_report 24 = .ok (.if_icmp .ge 14, 3) := by decide +kernel
theorem dX7_report_27 : decode cX7_report 27 = .ok (.aload_n 0, 1) := by decide +kernel
theorem dX7_report_28 : decode cX7_report 28 = .ok (.iload_n 1, 1) := by decide +kernel
theorem dX7_report_29 : decode cX7_report 29 = .ok (.invokevirtual 524, 3) := by decide +kernel
theorem dX7_report_32 : decode cX7_report 32 = .ok (.iinc 1 1, 3) := by decide +kernel
theorem dX7_report_35 : decode cX7_report 35 = .ok (.goto (-18), 3) := by decide +kernel
theorem dX7_report_38 : decode cX7_report 38 = .ok (.aload_n 0, 1) := by decide +kernel
theorem dX7_report_39 : decode cX7_report 39 = .ok (.getfield 499, 3) := by decide +kernel
theorem dX7_report_42 : decode cX7_report 42 = .ok (.ireturn, 1) := by decide +kernel
theorem dX7_reportByte_0 : decode cX7_reportByte 0 = .ok (.aload_n 0, 1) := by decide +kernel
theorem dX7_reportByte_1 : decode cX7_reportByte 1 = .ok (.aload_n 0, 1) := by decide +kernel
theorem dX7_reportByte_2 : decode cX7_reportByte 2 = .ok (.getfield 521, 3) := by decide +kernel
theorem dX7_reportByte_5 : decode cX7_reportByte 5 = .ok (.ifCond .eq 23, 3) := by decide +kernel
theorem dX7_reportByte_8 : decode cX7_reportByte 8 = .ok (.iload_n 1, 1) := by decide +kernel
theorem dX7_reportByte_9 : decode cX7_reportByte 9 = .ok (.i2l, 1) := by decide +kernel
theorem dX7_reportByte_10 : decode cX7_reportByte 10 = .ok (.lconst 0, 1) := by decide +kernel
theorem dX7_reportByte_11 : decode cX7_reportByte 11 = .ok (.aload_n 0, 1) := by decide +kernel
theorem dX7_reportByte_12 : decode cX7_reportByte 12 = .ok (.getfield 499, 3) := by decide +kernel
theorem dX7_reportByte_15 : decode cX7_reportByte 15 = .ok (.iconst 1, 1) := by decide +kernel
theorem dX7_reportByte_16 : decode cX7_reportByte 16 = .ok (.isub, 1) := by decide +kernel
theorem dX7_reportByte_17 : decode cX7_reportByte 17 = .ok (.i2l, 1) := by decide +kernel
theorem dX7_reportByte_18 : decode cX7_reportByte 18 = .ok (.invokestatic 84, 3) := by decide +kernel
theorem dX7_reportByte_21 : decode cX7_reportByte 21 = .ok (.ifCond .eq 7, 3) := by decide +kernel
theorem dX7_reportByte_24 : decode cX7_reportByte 24 = .ok (.iconst 1, 1) := by decide +kernel
theorem dX7_reportByte_25 : decode cX7_reportByte 25 = .ok (.goto 4, 3) := by decide +kernel
theorem dX7_reportByte_28 : decode cX7_reportByte 28 = .ok (.iconst 0, 1) := by decide +kernel
theorem dX7_reportByte_29 : decode cX7_reportByte 29 = .ok (.invokevirtual 76, 3) := by decide +kernel
theorem dX7_reportByte_32 : decode cX7_reportByte 32 = .ok (.ifCond .eq 12, 3) := by decide +kernel
theorem dX7_reportByte_35 : decode cX7_reportByte 35 = .ok (.aload_n 0, 1) := by decide +kernel
theorem dX7_reportByte_36 : decode cX7_reportByte 36 = .ok (.getfield 60, 3) := by decide +kernel
theorem dX7_reportByte_39 : decode cX7_reportByte 39 = .ok (.iload_n 1, 1) := by decide +kernel
theorem dX7_reportByte_40 : decode cX7_reportByte 40 = .ok (.iaload, 1) := by decide +kernel
theorem dX7_reportByte_41 : decode cX7_reportByte 41 = .ok (.goto 4, 3) := by decide +kernel
theorem dX7_reportByte_44 : decode cX7_reportByte 44 = .ok (.iconst 0, 1) := by decide +kernel
theorem dX7_reportByte_45 : decode cX7_reportByte 45 = .ok (.ireturn, 1) := by decide +kernel
theorem dJ6_bitCount_0f7a4_0 : decode cJ6_bitCount_0f7a4 0 = .ok (.iload_n 0, 1) := by decide +kernel
theorem dJ6_bitCount_0f7a4_1 : decode cJ6_bitCount_0f7a4 1 = .ok (.iload_n 0, 1) := by decide +kernel
theorem dJ6_bitCount_0f7a4_2 : decode cJ6_bitCount_0f7a4 2 = .ok (.iconst 1, 1) := by decide +kernel
theorem dJ6_bitCount_0f7a4_3 : decode cJ6_bitCount_0f7a4 3 = .ok (.iushr, 1) := by decide +kernel
theorem dJ6_bitCount_0f7a4_4 : decode cJ6_bitCount_0f7a4 4 = .ok (.ldc_w 265, 3) := by decide +kernel
theorem dJ6_bitCount_0f7a4_7 : decode cJ6_bitCount_0f7a4 7 = .ok (.iand, 1) := by decide +kernel
theorem dJ6_bitCount_0f7a4_8 : decode cJ6_bitCount_0f7a4 8 = .ok (.isub, 1) := by decide +kernel
theorem dJ6_bitCount_0f7a4_9 : decode cJ6_bitCount_0f7a4 9 = .ok (.istore_n 0, 1) := by decide +kernel
theorem dJ6_bitCount_0f7a4_10 : decode cJ6_bitCount_0f7a4 10 = .ok (.iload_n 0, 1) := by decide +kernel
theorem dJ6_bitCount_0f7a4_11 : decode cJ6_bitCount_0f7a4 11 = .ok (.ldc_w 266, 3) := by decide +kernel
theorem dJ6_bitCount_0f7a4_14 : decode cJ6_bitCount_0f7a4 14 = .ok (.iand, 1) := by decide +kernel
theorem dJ6_bitCount_0f7a4_15 : decode cJ6_bitCount_0f7a4 15 = .ok (.iload_n 0, 1) := by decide +kernel
theorem dJ6_bitCount_0f7a4_16 : decode cJ6_bitCount_0f7a4 16 = .ok (.iconst 2, 1) := by decide +kernel
theorem dJ6_bitCount_0f7a4_17 : decode cJ6_bitCount_0f7a4 17 = .ok (.iushr, 1) := by decide +kernel
theorem dJ6_bitCount_0f7a4_18 : decode cJ6_bitCount_0f7a4 18 = .ok (.ldc_w 266, 3) := by decide +kernel
theorem dJ6_bitCount_0f7a4_21 : decode cJ6_bitCount_0f7a4 21 = .ok (.iand, 1) := by decide +kernel
theorem dJ6_bitCount_0f7a4_22 : decode cJ6_bitCount_0f7a4 22 = .ok (.iadd, 1) := by decide +kernel
theorem dJ6_bitCount_0f7a4_23 : decode cJ6_bitCount_0f7a4 23 = .ok (.istore_n 0, 1) := by decide +kernel
theorem dJ6_bitCount_0f7a4_24 : decode cJ6_bitCount_0f7a4 24 = .ok (.iload_n 0, 1) := by decide +kernel
theorem dJ6_bitCount_0f7a4_25 : decode cJ6_bitCount_0f7a4 25 = .ok (.iload_n 0, 1) := by decide +kernel
theorem dJ6_bitCount_0f7a4_26 : decode cJ6_bitCount_0f7a4 26 = .ok (.iconst 4, 1) := by decide +kernel
theorem dJ6_bitCount_0f7a4_27 : decode cJ6_bitCount_0f7a4 27 = .ok (.iushr, 1) := by decide +kernel
theorem dJ6_bitCount_0f7a4_28 : decode cJ6_bitCount_0f7a4 28 = .ok (.iadd, 1) := by decide +kernel
theorem dJ6_bitCount_0f7a4_29 : decode cJ6_bitCount_0f7a4 29 = .ok (.ldc_w 267, 3) := by decide +kernel
theorem dJ6_bitCount_0f7a4_32 : decode cJ6_bitCount_0f7a4 32 = .ok (.iand, 1) := by decide +kernel
theorem dJ6_bitCount_0f7a4_33 : decode cJ6_bitCount_0f7a4 33 = .ok (.istore_n 0, 1) := by decide +kernel
theorem dJ6_bitCount_0f7a4_34 : decode cJ6_bitCount_0f7a4 34 = .ok (.iload_n 0, 1) := by decide +kernel
theorem dJ6_bitCount_0f7a4_35 : decode cJ6_bitCount_0f7a4 35 = .ok (.iload_n 0, 1) := by decide +kernel
theorem dJ6_bitCount_0f7a4_36 : decode cJ6_bitCount_0f7a4 36 = .ok (.bipush 8, 2) := by decide +kernel
theorem dJ6_bitCount_0f7a4_38 : decode cJ6_bitCount_0f7a4 38 = .ok (.iushr, 1) := by decide +kernel
theorem dJ6_bitCount_0f7a4_39 : decode cJ6_bitCount_0f7a4 39 = .ok (.iadd, 1) := by decide +kernel
theorem dJ6_bitCount_0f7a4_40 : decode cJ6_bitCount_0f7a4 40 = .ok (.istore_n 0, 1) := by decide +kernel
theorem dJ6_bitCount_0f7a4_41 : decode cJ6_bitCount_0f7a4 41 = .ok (.iload_n 0, 1) := by decide +kernel
theorem dJ6_bitCount_0f7a4_42 : decode cJ6_bitCount_0f7a4 42 = .ok (.iload_n 0, 1) := by decide +kernel
theorem dJ6_bitCount_0f7a4_43 : decode cJ6_bitCount_0f7a4 43 = .ok (.bipush 16, 2) := by decide +kernel
theorem dJ6_bitCount_0f7a4_45 : decode cJ6_bitCount_0f7a4 45 = .ok (.iushr, 1) := by decide +kernel
theorem dJ6_bitCount_0f7a4_46 : decode cJ6_bitCount_0f7a4 46 = .ok (.iadd, 1) := by decide +kernel
theorem dJ6_bitCount_0f7a4_47 : decode cJ6_bitCount_0f7a4 47 = .ok (.istore_n 0, 1) := by decide +kernel
theorem dJ6_bitCount_0f7a4_48 : decode cJ6_bitCount_0f7a4 48 = .ok (.iload_n 0, 1) := by decide +kernel
theorem dJ6_bitCount_0f7a4_49 : decode cJ6_bitCount_0f7a4 49 = .ok (.bipush 63, 2) := by decide +kernel
theorem dJ6_bitCount_0f7a4_51 : decode cJ6_bitCount_0f7a4 51 = .ok (.iand, 1) := by decide +kernel
theorem dJ6_bitCount_0f7a4_52 : decode cJ6_bitCount_0f7a4 52 = .ok (.ireturn, 1) := by decide +kernel
theorem dL_feed_0 : decode cL_feed 0 = .ok (.aload 6, 2) := by decide +kernel
theorem dL_feed_2 : decode cL_feed 2 = .ok (.iconst 0, 1) := by decide +kernel
theorem dL_feed_3 : decode cL_feed 3 = .ok (.aload_n 0, 1) := by decide +kernel
theorem dL_feed_4 : decode cL_feed 4 = .ok (.iload_n 1, 1) := by decide +kernel
theorem dL_feed_5 : decode cL_feed 5 = .ok (.iload_n 2, 1) := by decide +kernel
theorem dL_feed_6 : decode cL_feed 6 = .ok (.iload_n 3, 1) := by decide +kernel
theorem dL_feed_7 : decode cL_feed 7 = .ok (.iload 4, 2) := by decide +kernel
theorem dL_feed_9 : decode cL_feed 9 = .ok (.iload 5, 2) := by decide +kernel
theorem dL_feed_11 : decode cL_feed 11 = .ok (.invokevirtual 7, 3) := by decide +kernel
theorem dL_feed_14 : decode cL_feed 14 = .ok (.i2l, 1) := by decide +kernel
theorem dL_feed_15 : decode cL_feed 15 = .ok (.lastore, 1) := by decide +kernel
theorem dL_feed_16 : decode cL_feed 16 = .ok (.goto 7, 3) := by decide +kernel
theorem dL_feed_19 : decode cL_feed 19 = .ok (.astore 7, 2) := by decide +kernel
theorem dL_feed_21 : decode cL_feed 21 = .ok (.iconst 1, 1) := by decide +kernel
theorem dL_feed_22 : decode cL_feed 22 = .ok (.ireturn, 1) := by decide +kernel
theorem dL_feed_23 : decode cL_feed 23 = .ok (.iconst 0, 1) := by decide +kernel
theorem dL_feed_24 : decode cL_feed 24 = .ok (.ireturn, 1) := by decide +kernel
theorem dL_truncate_0 : decode cL_truncate 0 = .ok (.aload_n 2, 1) := by decide +kernel
theorem dL_truncate_1 : decode cL_truncate 1 = .ok (.iconst 0, 1) := by decide +kernel
theorem dL_truncate_2 : decode cL_truncate 2 = .ok (.aload_n 0, 1) := by decide +kernel
theorem dL_truncate_3 : decode cL_truncate 3 = .ok (.iload_n 1, 1) := by decide +kernel
theorem dL_truncate_4 : decode cL_truncate 4 = .ok (.invokevirtual 15, 3) := by decide +kernel
theorem dL_truncate_7 : decode cL_truncate 7 = .ok (.i2l, 1) := by decide +kernel
theorem dL_truncate_8 : decode cL_truncate 8 = .ok (.lastore, 1) := by decide +kernel
theorem dL_truncate_9 : decode cL_truncate 9 = .ok (.goto 6, 3) := by decide +kernel
theorem dL_truncate_12 : decode cL_truncate 12 = .ok (.astore_n 3, 1) := by decide +kernel
theorem dL_truncate_13 : decode cL_truncate 13 = .ok (.iconst 1, 1) := by decide +kernel
theorem dL_truncate_14 : decode cL_truncate 14 = .ok (.ireturn, 1) := by decide +kernel
theorem dL_truncate_15 : decode cL_truncate 15 = .ok (.iconst 0, 1) := by decide +kernel
theorem dL_truncate_16 : decode cL_truncate 16 = .ok (.ireturn, 1) := by decide +kernel
theorem dL_readText_0 : decode cL_readText 0 = .ok (.aload_n 1, 1) := by decide +kernel
theorem dL_readText_1 : decode cL_readText 1 = .ok (.iconst 0, 1) := by decide +kernel
theorem dL_readText_2 : decode cL_readText 2 = .ok (.aload_n 0, 1) := by decide +kernel
theorem dL_readText_3 : decode cL_readText 3 = .ok (.invokevirtual 21, 3) := by decide +kernel
theorem dL_readText_6 : decode cL_readText 6 = .ok (.i2l, 1) := by decide +kernel
theorem dL_readText_7 : decode cL_readText 7 = .ok (.lastore, 1) := by decide +kernel
theorem dL_readText_8 : decode cL_readText 8 = .ok (.goto 6, 3) := by decide +kernel
theorem dL_readText_11 : decode cL_readText 11 = .ok (.astore_n 2, 1) := by decide +kernel
theorem dL_readText_12 : decode cL_readText 12 = .ok (.iconst 1, 1) := by decide +kernel
theorem dL_readText_13 : decode cL_readText 13 = .ok (.ireturn, 1) := by decide +kernel
theorem dL_readText_14 : decode cL_readText 14 = .ok (.iconst 0, 1) := by decide +kernel
theorem dL_readText_15 : decode cL_readText 15 = .ok (.ireturn, 1) := by decide +kernel
theorem dL_runScript_0 : decode cL_runScript 0 = .ok (.aload_n 1, 1) := by decide +kernel
theorem dL_runScript_1 : decode cL_runScript 1 = .ok (.iconst 0, 1) := by decide +kernel
theorem dL_runScript_2 : decode cL_runScript 2 = .ok (.aload_n 0, 1) := by decide +kernel
theorem dL_runScript_3 : decode cL_runScript 3 = .ok (.invokevirtual 25, 3) := by decide +kernel
theorem dL_runScript_6 : decode cL_runScript 6 = .ok (.i2l, 1) := by decide +kernel
theorem dL_runScript_7 : decode cL_runScript 7 = .ok (.lastore, 1) := by decide +kernel
theorem dL_runScript_8 : decode cL_runScript 8 = .ok (.goto 6, 3) := by decide +kernel
theorem dL_runScript_11 : decode cL_runScript 11 = .ok (.astore_n 2, 1) := by decide +kernel
theorem dL_runScript_12 : decode cL_runScript 12 = .ok (.iconst 1, 1) := by decide +kernel
theorem dL_runScript_13 : decode cL_runScript 13 = .ok (.ireturn, 1) := by decide +kernel
theorem dL_runScript_14 : decode cL_runScript 14 = .ok (.iconst 0, 1) := by decide +kernel
theorem dL_runScript_15 : decode cL_runScript 15 = .ok (.ireturn, 1) := by decide +kernel
theorem dL_setting_0 : decode cL_setting 0 = .ok (.aload_n 2, 1) := by decide +kernel
theorem dL_setting_1 : decode cL_setting 1 = .ok (.iconst 0, 1) := by decide +kernel
theorem dL_setting_2 : decode cL_setting 2 = .ok (.aload_n 0, 1) := by decide +kernel
theorem dL_setting_3 : decode cL_setting 3 = .ok (.iload_n 1, 1) := by decide +kernel
theorem dL_setting_4 : decode cL_setting 4 = .ok (.invokevirtual 28, 3) := by decide +kernel
theorem dL_setting_7 : decode cL_setting 7 = .ok (.i2l, 1) := by decide +kernel
theorem dL_setting_8 : decode cL_setting 8 = .ok (.lastore, 1) := by decide +kernel
theorem dL_setting_9 : decode cL_setting 9 = .ok (.goto 6, 3) := by decide +kernel
theorem dL_setting_12 : decode cL_setting 12 = .ok (.astore_n 3, 1) := by decide +kernel
theorem dL_setting_13 : decode cL_setting 13 = .ok (.iconst 1, 1) := by decide +kernel
theorem dL_setting_14 : decode cL_setting 14 = .ok (.ireturn, 1) := by decide +kernel
theorem dL_setting_15 : decode cL_setting 15 = .ok (.iconst 0, 1) := by decide +kernel
theorem dL_setting_16 : decode cL_setting 16 = .ok (.ireturn, 1) := by decide +kernel
theorem dL_beacon_0 : decode cL_beacon 0 = .ok (.aload_n 3, 1) := by decide +kernel
theorem dL_beacon_1 : decode cL_beacon 1 = .ok (.iconst 0, 1) := by decide +kernel
theorem dL_beacon_2 : decode cL_beacon 2 = .ok (.aload_n 0, 1) := by decide +kernel
theorem dL_beacon_3 : decode cL_beacon 3 = .ok (.iload_n 1, 1) := by decide +kernel
theorem dL_beacon_4 : decode cL_beacon 4 = .ok (.iload_n 2, 1) := by decide +kernel
theorem dL_beacon_5 : decode cL_beacon 5 = .ok (.invokevirtual 31, 3) := by decide +kernel
theorem dL_beacon_8 : decode cL_beacon 8 = .ok (.i2l, 1) := by decide +kernel
theorem dL_beacon_9 : decode cL_beacon 9 = .ok (.lastore, 1) := by decide +kernel
theorem dL_beacon_10 : decode cL_beacon 10 = .ok (.goto 11, 3) := by decide +kernel
theorem dL_beacon_13 : decode cL_beacon 13 = .ok (.astore 4, 2) := by decide +kernel
theorem dL_beacon_15 : decode cL_beacon 15 = .ok (.iconst 1, 1) := by decide +kernel
theorem dL_beacon_16 : decode cL_beacon 16 = .ok (.ireturn, 1) := by decide +kernel
theorem dL_beacon_17 : decode cL_beacon 17 = .ok (.astore 4, 2) := by decide +kernel
theorem dL_beacon_19 : decode cL_beacon 19 = .ok (.iconst 2, 1) := by decide +kernel
theorem dL_beacon_20 : decode cL_beacon 20 = .ok (.ireturn, 1) := by decide +kernel
theorem dL_beacon_21 : decode cL_beacon 21 = .ok (.iconst 0, 1) := by decide +kernel
theorem dL_beacon_22 : decode cL_beacon 22 = .ok (.ireturn, 1) := by decide +kernel
theorem dL_slots_0 : decode cL_slots 0 = .ok (.aload_n 3, 1) := by decide +kernel
theorem dL_slots_1 : decode cL_slots 1 = .ok (.iconst 0, 1) := by decide +kernel
theorem dL_slots_2 : decode cL_slots 2 = .ok (.aload_n 0, 1) := by decide +kernel
theorem dL_slots_3 : decode cL_slots 3 = .ok (.iload_n 1, 1) := by decide +kernel
theorem dL_slots_4 : decode cL_slots 4 = .ok (.iload_n 2, 1) := by decide +kernel
theorem dL_slots_5 : decode cL_slots 5 = .ok (.invokevirtual 37, 3) := by decide +kernel
theorem dL_slots_8 : decode cL_slots 8 = .ok (.i2l, 1) := by decide +kernel
theorem dL_slots_9 : decode cL_slots 9 = .ok (.lastore, 1) := by decide +kernel
theorem dL_slots_10 : decode cL_slots 10 = .ok (.goto 11, 3) := by decide +kernel
theorem dL_slots_13 : decode cL_slots 13 = .ok (.astore 4, 2) := by decide +kernel
theorem dL_slots_15 : decode cL_slots 15 = .ok (.iconst 1, 1) := by decide +kernel
theorem dL_slots_16 : decode cL_slots 16 = .ok (.ireturn, 1) := by decide +kernel
theorem dL_slots_17 : decode cL_slots 17 = .ok (.astore 4, 2) := by decide +kernel
theorem dL_slots_19 : decode cL_slots 19 = .ok (.iconst 2, 1) := by decide +kernel
theorem dL_slots_20 : decode cL_slots 20 = .ok (.ireturn, 1) := by decide +kernel
theorem dL_slots_21 : decode cL_slots 21 = .ok (.iconst 0, 1) := by decide +kernel
theorem dL_slots_22 : decode cL_slots 22 = .ok (.ireturn, 1) := by decide +kernel
theorem dL_reckoned_0 : decode cL_reckoned 0 = .ok (.aload_n 2, 1) := by decide +kernel
theorem dL_reckoned_1 : decode cL_reckoned 1 = .ok (.iconst 0, 1) := by decide +kernel
theorem dL_reckoned_2 : decode cL_reckoned 2 = .ok (.aload_n 0, 1) := by decide +kernel
theorem dL_reckoned_3 : decode cL_reckoned 3 = .ok (.iload_n 1, 1) := by decide +kernel
theorem dL_reckoned_4 : decode cL_reckoned 4 = .ok (.invokevirtual 40, 3) := by decide +kernel
theorem dL_reckoned_7 : decode cL_reckoned 7 = .ok (.i2l, 1) := by decide +kernel
theorem dL_reckoned_8 : decode cL_reckoned 8 = .ok (.lastore, 1) := by decide +kernel
theorem dL_reckoned_9 : decode cL_reckoned 9 = .ok (.goto 6, 3) := by decide +kernel
theorem dL_reckoned_12 : decode cL_reckoned 12 = .ok (.astore_n 3, 1) := by decide +kernel
theorem dL_reckoned_13 : decode cL_reckoned 13 = .ok (.iconst 1, 1) := by decide +kernel
theorem dL_reckoned_14 : decode cL_reckoned 14 = .ok (.ireturn, 1) := by decide +kernel
theorem dL_reckoned_15 : decode cL_reckoned 15 = .ok (.iconst 0, 1) := by decide +kernel
theorem dL_reckoned_16 : decode cL_reckoned 16 = .ok (.ireturn, 1) := by decide +kernel
theorem dL_letter_0 : decode cL_letter 0 = .ok (.aload_n 3, 1) := by decide +kernel
theorem dL_letter_1 : decode cL_letter 1 = .ok (.iconst 0, 1) := by decide +kernel
theorem dL_letter_2 : decode cL_letter 2 = .ok (.aload_n 0, 1) := by decide +kernel
theorem dL_letter_3 : decode cL_letter 3 = .ok (.iload_n 1, 1) := by decide +kernel
theorem dL_letter_4 : decode cL_letter 4 = .ok (.iload_n 2, 1) := by decide +kernel
theorem dL_letter_5 : decode cL_letter 5 = .ok (.invokevirtual 43, 3) := by decide +kernel
theorem dL_letter_8 : decode cL_letter 8 = .ok (.i2l, 1) := by decide +kernel
theorem dL_letter_9 : decode cL_letter 9 = .ok (.lastore, 1) := by decide +kernel
theorem dL_letter_10 : decode cL_letter 10 = .ok (.goto 7, 3) := by decide +kernel
theorem dL_letter_13 : decode cL_letter 13 = .ok (.astore 4, 2) := by decide +kernel
theorem dL_letter_15 : decode cL_letter 15 = .ok (.iconst 1, 1) := by decide +kernel
theorem dL_letter_16 : decode cL_letter 16 = .ok (.ireturn, 1) := by decide +kernel
theorem dL_letter_17 : decode cL_letter 17 = .ok (.iconst 0, 1) := by decide +kernel
theorem dL_letter_18 : decode cL_letter 18 = .ok (.ireturn, 1) := by decide +kernel
theorem dL_heard_0 : decode cL_heard 0 = .ok (.aload_n 3, 1) := by decide +kernel
theorem dL_heard_1 : decode cL_heard 1 = .ok (.iconst 0, 1) := by decide +kernel
theorem dL_heard_2 : decode cL_heard 2 = .ok (.aload_n 0, 1) := by decide +kernel
theorem dL_heard_3 : decode cL_heard 3 = .ok (.iload_n 1, 1) := by decide +kernel
theorem dL_heard_4 : decode cL_heard 4 = .ok (.iload_n 2, 1) := by decide +kernel
theorem dL_heard_5 : decode cL_heard 5 = .ok (.invokevirtual 46, 3) := by decide +kernel
theorem dL_heard_8 : decode cL_heard 8 = .ok (.i2l, 1) := by decide +kernel
theorem dL_heard_9 : decode cL_heard 9 = .ok (.lastore, 1) := by decide +kernel
theorem dL_heard_10 : decode cL_heard 10 = .ok (.goto 7, 3) := by decide +kernel
theorem dL_heard_13 : decode cL_heard 13 = .ok (.astore 4, 2) := by decide +kernel
theorem dL_heard_15 : decode cL_heard 15 = .ok (.iconst 1, 1) := by decide +kernel
theorem dL_heard_16 : decode cL_heard 16 = .ok (.ireturn, 1) := by decide +kernel
theorem dL_heard_17 : decode cL_heard 17 = .ok (.iconst 0, 1) := by decide +kernel
theorem dL_heard_18 : decode cL_heard 18 = .ok (.ireturn, 1) := by decide +kernel
theorem dL_knows_0 : decode cL_knows 0 = .ok (.aload_n 3, 1) := by decide +kernel
theorem dL_knows_1 : decode cL_knows 1 = .ok (.iconst 0, 1) := by decide +kernel
theorem dL_knows_2 : decode cL_knows 2 = .ok (.aload_n 0, 1) := by decide +kernel
theorem dL_knows_3 : decode cL_knows 3 = .ok (.iload_n 1, 1) := by decide +kernel
theorem dL_knows_4 : decode cL_knows 4 = .ok (.iload_n 2, 1) := by decide +kernel
theorem dL_knows_5 : decode cL_knows 5 = .ok (.invokevirtual 49, 3) := by decide +kernel
theorem dL_knows_8 : decode cL_knows 8 = .ok (.ifCond .eq 7, 3) := by decide +kernel
theorem dL_knows_11 : decode cL_knows 11 = .ok (.lconst 1, 1) := by decide +kernel
theorem dL_knows_12 : decode cL_knows 12 = .ok (.goto 4, 3) := by decide +kernel
theorem dL_knows_15 : decode cL_knows 15 = .ok (.lconst 0, 1) := by decide +kernel
theorem dL_knows_16 : decode cL_knows 16 = .ok (.lastore, 1) := by decide +kernel
theorem dL_knows_17 : decode cL_knows 17 = .ok (.goto 7, 3) := by decide +kernel
theorem dL_knows_20 : decode cL_knows 20 = .ok (.astore 4, 2) := by decide +kernel
theorem dL_knows_22 : decode cL_knows 22 = .ok (.iconst 1, 1) := by decide +kernel
theorem dL_knows_23 : decode cL_knows 23 = .ok (.ireturn, 1) := by decide +kernel
theorem dL_knows_24 : decode cL_knows 24 = .ok (.iconst 0, 1) := by decide +kernel
theorem dL_knows_25 : decode cL_knows 25 = .ok (.ireturn, 1) := by decide +kernel
theorem dL_why_0 : decode cL_why 0 = .ok (.aload_n 2, 1) := by decide +kernel
theorem dL_why_1 : decode cL_why 1 = .ok (.iconst 0, 1) := by decide +kernel
theorem dL_why_2 : decode cL_why 2 = .ok (.aload_n 0, 1) := by decide +kernel
theorem dL_why_3 : decode cL_why 3 = .ok (.iload_n 1, 1) := by decide +kernel
theorem dL_why_4 : decode cL_why 4 = .ok (.invokevirtual 53, 3) := by decide +kernel
theorem dL_why_7 : decode cL_why 7 = .ok (.i2l, 1) := by decide +kernel
theorem dL_why_8 : decode cL_why 8 = .ok (.lastore, 1) := by decide +kernel
theorem dL_why_9 : decode cL_why 9 = .ok (.goto 6, 3) := by decide +kernel
theorem dL_why_12 : decode cL_why 12 = .ok (.astore_n 3, 1) := by decide +kernel
theorem dL_why_13 : decode cL_why 13 = .ok (.iconst 1, 1) := by decide +kernel
theorem dL_why_14 : decode cL_why 14 = .ok (.ireturn, 1) := by decide +kernel
theorem dL_why_15 : decode cL_why 15 = .ok (.iconst 0, 1) := by decide +kernel
theorem dL_why_16 : decode cL_why 16 = .ok (.ireturn, 1) := by decide +kernel
theorem dL_whyNot_0 : decode cL_whyNot 0 = .ok (.aload_n 3, 1) := by decide +kernel
theorem dL_whyNot_1 : decode cL_whyNot 1 = .ok (.iconst 0, 1) := by decide +kernel
theorem dL_whyNot_2 : decode cL_whyNot 2 = .ok (.aload_n 0, 1) := by decide +kernel
theorem dL_whyNot_3 : decode cL_whyNot 3 = .ok (.iload_n 1, 1) := by decide +kernel
theorem dL_whyNot_4 : decode cL_whyNot 4 = .ok (.iload_n 2, 1) := by decide +kernel
theorem dL_whyNot_5 : decode cL_whyNot 5 = .ok (.invokevirtual 56, 3) := by decide +kernel
theorem dL_whyNot_8 : decode cL_whyNot 8 = .ok (.i2l, 1) := by decide +kernel
theorem dL_whyNot_9 : decode cL_whyNot 9 = .ok (.lastore, 1) := by decide +kernel
theorem dL_whyNot_10 : decode cL_whyNot 10 = .ok (.goto 7, 3) := by decide +kernel
theorem dL_whyNot_13 : decode cL_whyNot 13 = .ok (.astore 4, 2) := by decide +kernel
theorem dL_whyNot_15 : decode cL_whyNot 15 = .ok (.iconst 1, 1) := by decide +kernel
theorem dL_whyNot_16 : decode cL_whyNot 16 = .ok (.ireturn, 1) := by decide +kernel
theorem dL_whyNot_17 : decode cL_whyNot 17 = .ok (.iconst 0, 1) := by decide +kernel
theorem dL_whyNot_18 : decode cL_whyNot 18 = .ok (.ireturn, 1) := by decide +kernel
theorem dL_dueIn_0 : decode cL_dueIn 0 = .ok (.aload_n 2, 1) := by decide +kernel
theorem dL_dueIn_1 : decode cL_dueIn 1 = .ok (.iconst 0, 1) := by decide +kernel
theorem dL_dueIn_2 : decode cL_dueIn 2 = .ok (.aload_n 0, 1) := by decide +kernel
theorem dL_dueIn_3 : decode cL_dueIn 3 = .ok (.iload_n 1, 1) := by decide +kernel
theorem dL_dueIn_4 : decode cL_dueIn 4 = .ok (.invokevirtual 59, 3) := by decide +kernel
theorem dL_dueIn_7 : decode cL_dueIn 7 = .ok (.i2l, 1) := by decide +kernel
theorem dL_dueIn_8 : decode cL_dueIn 8 = .ok (.lastore, 1) := by decide +kernel
theorem dL_dueIn_9 : decode cL_dueIn 9 = .ok (.goto 6, 3) := by decide +kernel
theorem dL_dueIn_12 : decode cL_dueIn 12 = .ok (.astore_n 3, 1) := by decide +kernel
theorem dL_dueIn_13 : decode cL_dueIn 13 = .ok (.iconst 1, 1) := by decide +kernel
theorem dL_dueIn_14 : decode cL_dueIn 14 = .ok (.ireturn, 1) := by decide +kernel
theorem dL_dueIn_15 : decode cL_dueIn 15 = .ok (.iconst 0, 1) := by decide +kernel
theorem dL_dueIn_16 : decode cL_dueIn 16 = .ok (.ireturn, 1) := by decide +kernel
theorem dL_hidden_0 : decode cL_hidden 0 = .ok (.aload_n 2, 1) := by decide +kernel
theorem dL_hidden_1 : decode cL_hidden 1 = .ok (.iconst 0, 1) := by decide +kernel
theorem dL_hidden_2 : decode cL_hidden 2 = .ok (.aload_n 0, 1) := by decide +kernel
theorem dL_hidden_3 : decode cL_hidden 3 = .ok (.iload_n 1, 1) := by decide +kernel
theorem dL_hidden_4 : decode cL_hidden 4 = .ok (.invokevirtual 62, 3) := by decide +kernel
theorem dL_hidden_7 : decode cL_hidden 7 = .ok (.i2l, 1) := by decide +kernel
theorem dL_hidden_8 : decode cL_hidden 8 = .ok (.lastore, 1) := by decide +kernel
theorem dL_hidden_9 : decode cL_hidden 9 = .ok (.goto 6, 3) := by decide +kernel
theorem dL_hidden_12 : decode cL_hidden 12 = .ok (.astore_n 3, 1) := by decide +kernel
theorem dL_hidden_13 : decode cL_hidden 13 = .ok (.iconst 1, 1) := by decide +kernel
theorem dL_hidden_14 : decode cL_hidden 14 = .ok (.ireturn, 1) := by decide +kernel
theorem dL_hidden_15 : decode cL_hidden 15 = .ok (.iconst 0, 1) := by decide +kernel
theorem dL_hidden_16 : decode cL_hidden 16 = .ok (.ireturn, 1) := by decide +kernel
theorem dL_hops_0 : decode cL_hops 0 = .ok (.aload_n 3, 1) := by decide +kernel
theorem dL_hops_1 : decode cL_hops 1 = .ok (.iconst 0, 1) := by decide +kernel
theorem dL_hops_2 : decode cL_hops 2 = .ok (.aload_n 0, 1) := by decide +kernel
theorem dL_hops_3 : decode cL_hops 3 = .ok (.iload_n 1, 1) := by decide +kernel
theorem dL_hops_4 : decode cL_hops 4 = .ok (.iload_n 2, 1) := by decide +kernel
theorem dL_hops_5 : decode cL_hops 5 = .ok (.invokevirtual 65, 3) := by decide +kernel
theorem dL_hops_8 : decode cL_hops 8 = .ok (.i2l, 1) := by decide +kernel
theorem dL_hops_9 : decode cL_hops 9 = .ok (.lastore, 1) := by decide +kernel
theorem dL_hops_10 : decode cL_hops 10 = .ok (.goto 7, 3) := by decide +kernel
theorem dL_hops_13 : decode cL_hops 13 = .ok (.astore 4, 2) := by decide +kernel
theorem dL_hops_15 : decode cL_hops 15 = .ok (.iconst 1, 1) := by decide +kernel
theorem dL_hops_16 : decode cL_hops 16 = .ok (.ireturn, 1) := by decide +kernel
theorem dL_hops_17 : decode cL_hops 17 = .ok (.iconst 0, 1) := by decide +kernel
theorem dL_hops_18 : decode cL_hops 18 = .ok (.ireturn, 1) := by decide +kernel
theorem dL_ears_0 : decode cL_ears 0 = .ok (.aload_n 2, 1) := by decide +kernel
theorem dL_ears_1 : decode cL_ears 1 = .ok (.iconst 0, 1) := by decide +kernel
theorem dL_ears_2 : decode cL_ears 2 = .ok (.aload_n 0, 1) := by decide +kernel
theorem dL_ears_3 : decode cL_ears 3 = .ok (.iload_n 1, 1) := by decide +kernel
theorem dL_ears_4 : decode cL_ears 4 = .ok (.invokevirtual 68, 3) := by decide +kernel
theorem dL_ears_7 : decode cL_ears 7 = .ok (.i2l, 1) := by decide +kernel
theorem dL_ears_8 : decode cL_ears 8 = .ok (.lastore, 1) := by decide +kernel
theorem dL_ears_9 : decode cL_ears 9 = .ok (.goto 6, 3) := by decide +kernel
theorem dL_ears_12 : decode cL_ears 12 = .ok (.astore_n 3, 1) := by decide +kernel
theorem dL_ears_13 : decode cL_ears 13 = .ok (.iconst 1, 1) := by decide +kernel
theorem dL_ears_14 : decode cL_ears 14 = .ok (.ireturn, 1) := by decide +kernel
theorem dL_ears_15 : decode cL_ears 15 = .ok (.iconst 0, 1) := by decide +kernel
theorem dL_ears_16 : decode cL_ears 16 = .ok (.ireturn, 1) := by decide +kernel
theorem dL_window_0 : decode cL_window 0 = .ok (.aload_n 2, 1) := by decide +kernel
theorem dL_window_1 : decode cL_window 1 = .ok (.iconst 0, 1) := by decide +kernel
theorem dL_window_2 : decode cL_window 2 = .ok (.aload_n 0, 1) := by decide +kernel
theorem dL_window_3 : decode cL_window 3 = .ok (.iload_n 1, 1) := by decide +kernel
theorem dL_window_4 : decode cL_window 4 = .ok (.invokevirtual 71, 3) := by decide +kernel
theorem dL_window_7 : decode cL_window 7 = .ok (.i2l, 1) := by decide +kernel
theorem dL_window_8 : decode cL_window 8 = .ok (.lastore, 1) := by decide +kernel
theorem dL_window_9 : decode cL_window 9 = .ok (.goto 6, 3) := by decide +kernel
theorem dL_window_12 : decode cL_window 12 = .ok (.astore_n 3, 1) := by decide +kernel
theorem dL_window_13 : decode cL_window 13 = .ok (.iconst 1, 1) := by decide +kernel
theorem dL_window_14 : decode cL_window 14 = .ok (.ireturn, 1) := by decide +kernel
theorem dL_window_15 : decode cL_window 15 = .ok (.iconst 0, 1) := by decide +kernel
theorem dL_window_16 : decode cL_window 16 = .ok (.ireturn, 1) := by decide +kernel
theorem dL_stateIn_0 : decode cL_stateIn 0 = .ok (.aload_n 3, 1) := by decide +kernel
theorem dL_stateIn_1 : decode cL_stateIn 1 = .ok (.iconst 0, 1) := by decide +kernel
theorem dL_stateIn_2 : decode cL_stateIn 2 = .ok (.aload_n 0, 1) := by decide +kernel
theorem dL_stateIn_3 : decode cL_stateIn 3 = .ok (.iload_n 1, 1) := by decide +kernel
theorem dL_stateIn_4 : decode cL_stateIn 4 = .ok (.iload_n 2, 1) := by decide +kernel
theorem dL_stateIn_5 : decode cL_stateIn 5 = .ok (.invokevirtual 74, 3) := by decide +kernel
theorem dL_stateIn_8 : decode cL_stateIn 8 = .ok (.i2l, 1) := by decide +kernel
theorem dL_stateIn_9 : decode cL_stateIn 9 = .ok (.lastore, 1) := by decide +kernel
theorem dL_stateIn_10 : decode cL_stateIn 10 = .ok (.goto 11, 3) := by decide +kernel
theorem dL_stateIn_13 : decode cL_stateIn 13 = .ok (.astore 4, 2) := by decide +kernel
theorem dL_stateIn_15 : decode cL_stateIn 15 = .ok (.iconst 1, 1) := by decide +kernel
theorem dL_stateIn_16 : decode cL_stateIn 16 = .ok (.ireturn, 1) := by decide +kernel
theorem dL_stateIn_17 : decode cL_stateIn 17 = .ok (.astore 4, 2) := by decide +kernel
theorem dL_stateIn_19 : decode cL_stateIn 19 = .ok (.iconst 2, 1) := by decide +kernel
theorem dL_stateIn_20 : decode cL_stateIn 20 = .ok (.ireturn, 1) := by decide +kernel
theorem dL_stateIn_21 : decode cL_stateIn 21 = .ok (.iconst 0, 1) := by decide +kernel
theorem dL_stateIn_22 : decode cL_stateIn 22 = .ok (.ireturn, 1) := by decide +kernel
theorem dL_energyIn_0 : decode cL_energyIn 0 = .ok (.aload_n 3, 1) := by decide +kernel
theorem dL_energyIn_1 : decode cL_energyIn 1 = .ok (.iconst 0, 1) := by decide +kernel
theorem dL_energyIn_2 : decode cL_energyIn 2 = .ok (.aload_n 0, 1) := by decide +kernel
theorem dL_energyIn_3 : decode cL_energyIn 3 = .ok (.iload_n 1, 1) := by decide +kernel
theorem dL_energyIn_4 : decode cL_energyIn 4 = .ok (.iload_n 2, 1) := by decide +kernel
theorem dL_energyIn_5 : decode cL_energyIn 5 = .ok (.invokevirtual 77, 3) := by decide +kernel
theorem dL_energyIn_8 : decode cL_energyIn 8 = .ok (.i2l, 1) := by decide +kernel
theorem dL_energyIn_9 : decode cL_energyIn 9 = .ok (.lastore, 1) := by decide +kernel
theorem dL_energyIn_10 : decode cL_energyIn 10 = .ok (.goto 11, 3) := by decide +kernel
theorem dL_energyIn_13 : decode cL_energyIn 13 = .ok (.astore 4, 2) := by decide +kernel
theorem dL_energyIn_15 : decode cL_energyIn 15 = .ok (.iconst 1, 1) := by decide +kernel
theorem dL_energyIn_16 : decode cL_energyIn 16 = .ok (.ireturn, 1) := by decide +kernel
theorem dL_energyIn_17 : decode cL_energyIn 17 = .ok (.astore 4, 2) := by decide +kernel
theorem dL_energyIn_19 : decode cL_energyIn 19 = .ok (.iconst 2, 1) := by decide +kernel
theorem dL_energyIn_20 : decode cL_energyIn 20 = .ok (.ireturn, 1) := by decide +kernel
theorem dL_energyIn_21 : decode cL_energyIn 21 = .ok (.iconst 0, 1) := by decide +kernel
theorem dL_energyIn_22 : decode cL_energyIn 22 = .ok (.ireturn, 1) := by decide +kernel
theorem dL_collisionsIn_0 : decode cL_collisionsIn 0 = .ok (.aload_n 2, 1) := by decide +kernel
theorem dL_collisionsIn_1 : decode cL_collisionsIn 1 = .ok (.iconst 0, 1) := by decide +kernel
theorem dL_collisionsIn_2 : decode cL_collisionsIn 2 = .ok (.aload_n 0, 1) := by decide +kernel
theorem dL_collisionsIn_3 : decode cL_collisionsIn 3 = .ok (.iload_n 1, 1) := by decide +kernel
theorem dL_collisionsIn_4 : decode cL_collisionsIn 4 = .ok (.invokevirtual 80, 3) := by decide +kernel
theorem dL_collisionsIn_7 : decode cL_collisionsIn 7 = .ok (.i2l, 1) := by decide +kernel
theorem dL_collisionsIn_8 : decode cL_collisionsIn 8 = .ok (.lastore, 1) := by decide +kernel
theorem dL_collisionsIn_9 : decode cL_collisionsIn 9 = .ok (.goto 6, 3) := by decide +kernel
theorem dL_collisionsIn_12 : decode cL_collisionsIn 12 = .ok (.astore_n 3, 1) := by decide +kernel
theorem dL_collisionsIn_13 : decode cL_collisionsIn 13 = .ok (.iconst 1, 1) := by decide +kernel
theorem dL_collisionsIn_14 : decode cL_collisionsIn 14 = .ok (.ireturn, 1) := by decide +kernel
theorem dL_collisionsIn_15 : decode cL_collisionsIn 15 = .ok (.iconst 0, 1) := by decide +kernel
theorem dL_collisionsIn_16 : decode cL_collisionsIn 16 = .ok (.ireturn, 1) := by decide +kernel
theorem dL_knowsIn_0 : decode cL_knowsIn 0 = .ok (.aload_n 3, 1) := by decide +kernel
theorem dL_knowsIn_1 : decode cL_knowsIn 1 = .ok (.iconst 0, 1) := by decide +kernel
theorem dL_knowsIn_2 : decode cL_knowsIn 2 = .ok (.aload_n 0, 1) := by decide +kernel
theorem dL_knowsIn_3 : decode cL_knowsIn 3 = .ok (.iload_n 1, 1) := by decide +kernel
theorem dL_knowsIn_4 : decode cL_knowsIn 4 = .ok (.iload_n 2, 1) := by decide +kernel
theorem dL_knowsIn_5 : decode cL_knowsIn 5 = .ok (.invokevirtual 83, 3) := by decide +kernel
theorem dL_knowsIn_8 : decode cL_knowsIn 8 = .ok (.i2l, 1) := by decide +kernel
theorem dL_knowsIn_9 : decode cL_knowsIn 9 = .ok (.lastore, 1) := by decide +kernel
theorem dL_knowsIn_10 : decode cL_knowsIn 10 = .ok (.goto 7, 3) := by decide +kernel
theorem dL_knowsIn_13 : decode cL_knowsIn 13 = .ok (.astore 4, 2) := by decide +kernel
theorem dL_knowsIn_15 : decode cL_knowsIn 15 = .ok (.iconst 1, 1) := by decide +kernel
theorem dL_knowsIn_16 : decode cL_knowsIn 16 = .ok (.ireturn, 1) := by decide +kernel
theorem dL_knowsIn_17 : decode cL_knowsIn 17 = .ok (.iconst 0, 1) := by decide +kernel
theorem dL_knowsIn_18 : decode cL_knowsIn 18 = .ok (.ireturn, 1) := by decide +kernel
theorem dL_outIn_0 : decode cL_outIn 0 = .ok (.aload_n 2, 1) := by decide +kernel
theorem dL_outIn_1 : decode cL_outIn 1 = .ok (.iconst 0, 1) := by decide +kernel
theorem dL_outIn_2 : decode cL_outIn 2 = .ok (.aload_n 0, 1) := by decide +kernel
theorem dL_outIn_3 : decode cL_outIn 3 = .ok (.iload_n 1, 1) := by decide +kernel
theorem dL_outIn_4 : decode cL_outIn 4 = .ok (.invokevirtual 86, 3) := by decide +kernel
theorem dL_outIn_7 : decode cL_outIn 7 = .ok (.i2l, 1) := by decide +kernel
theorem dL_outIn_8 : decode cL_outIn 8 = .ok (.lastore, 1) := by decide +kernel
theorem dL_outIn_9 : decode cL_outIn 9 = .ok (.goto 6, 3) := by decide +kernel
theorem dL_outIn_12 : decode cL_outIn 12 = .ok (.astore_n 3, 1) := by decide +kernel
theorem dL_outIn_13 : decode cL_outIn 13 = .ok (.iconst 1, 1) := by decide +kernel
theorem dL_outIn_14 : decode cL_outIn 14 = .ok (.ireturn, 1) := by decide +kernel
theorem dL_outIn_15 : decode cL_outIn 15 = .ok (.iconst 0, 1) := by decide +kernel
theorem dL_outIn_16 : decode cL_outIn 16 = .ok (.ireturn, 1) := by decide +kernel
theorem dL_sendsIn_0 : decode cL_sendsIn 0 = .ok (.aload_n 2, 1) := by decide +kernel
theorem dL_sendsIn_1 : decode cL_sendsIn 1 = .ok (.iconst 0, 1) := by decide +kernel
theorem dL_sendsIn_2 : decode cL_sendsIn 2 = .ok (.aload_n 0, 1) := by decide +kernel
theorem dL_sendsIn_3 : decode cL_sendsIn 3 = .ok (.iload_n 1, 1) := by decide +kernel
theorem dL_sendsIn_4 : decode cL_sendsIn 4 = .ok (.invokevirtual 89, 3) := by decide +kernel
theorem dL_sendsIn_7 : decode cL_sendsIn 7 = .ok (.i2l, 1) := by decide +kernel
theorem dL_sendsIn_8 : decode cL_sendsIn 8 = .ok (.lastore, 1) := by decide +kernel
theorem dL_sendsIn_9 : decode cL_sendsIn 9 = .ok (.goto 6, 3) := by decide +kernel
theorem dL_sendsIn_12 : decode cL_sendsIn 12 = .ok (.astore_n 3, 1) := by decide +kernel
theorem dL_sendsIn_13 : decode cL_sendsIn 13 = .ok (.iconst 1, 1) := by decide +kernel
theorem dL_sendsIn_14 : decode cL_sendsIn 14 = .ok (.ireturn, 1) := by decide +kernel
theorem dL_sendsIn_15 : decode cL_sendsIn 15 = .ok (.iconst 0, 1) := by decide +kernel
theorem dL_sendsIn_16 : decode cL_sendsIn 16 = .ok (.ireturn, 1) := by decide +kernel
theorem dL_wellIn_0 : decode cL_wellIn 0 = .ok (.aload_n 2, 1) := by decide +kernel
theorem dL_wellIn_1 : decode cL_wellIn 1 = .ok (.iconst 0, 1) := by decide +kernel
theorem dL_wellIn_2 : decode cL_wellIn 2 = .ok (.aload_n 0, 1) := by decide +kernel
theorem dL_wellIn_3 : decode cL_wellIn 3 = .ok (.iload_n 1, 1) := by decide +kernel
theorem dL_wellIn_4 : decode cL_wellIn 4 = .ok (.invokevirtual 92, 3) := by decide +kernel
theorem dL_wellIn_7 : decode cL_wellIn 7 = .ok (.i2l, 1) := by decide +kernel
theorem dL_wellIn_8 : decode cL_wellIn 8 = .ok (.lastore, 1) := by decide +kernel
theorem dL_wellIn_9 : decode cL_wellIn 9 = .ok (.goto 6, 3) := by decide +kernel
theorem dL_wellIn_12 : decode cL_wellIn 12 = .ok (.astore_n 3, 1) := by decide +kernel
theorem dL_wellIn_13 : decode cL_wellIn 13 = .ok (.iconst 1, 1) := by decide +kernel
theorem dL_wellIn_14 : decode cL_wellIn 14 = .ok (.ireturn, 1) := by decide +kernel
theorem dL_wellIn_15 : decode cL_wellIn 15 = .ok (.iconst 0, 1) := by decide +kernel
theorem dL_wellIn_16 : decode cL_wellIn 16 = .ok (.ireturn, 1) := by decide +kernel
theorem dL_bestAt_0 : decode cL_bestAt 0 = .ok (.aload_n 2, 1) := by decide +kernel
theorem dL_bestAt_1 : decode cL_bestAt 1 = .ok (.iconst 0, 1) := by decide +kernel
theorem dL_bestAt_2 : decode cL_bestAt 2 = .ok (.aload_n 0, 1) := by decide +kernel
theorem dL_bestAt_3 : decode cL_bestAt 3 = .ok (.iload_n 1, 1) := by decide +kernel
theorem dL_bestAt_4 : decode cL_bestAt 4 = .ok (.invokevirtual 95, 3) := by decide +kernel
theorem dL_bestAt_7 : decode cL_bestAt 7 = .ok (.i2l, 1) := by decide +kernel
theorem dL_bestAt_8 : decode cL_bestAt 8 = .ok (.lastore, 1) := by decide +kernel
theorem dL_bestAt_9 : decode cL_bestAt 9 = .ok (.goto 6, 3) := by decide +kernel
theorem dL_bestAt_12 : decode cL_bestAt 12 = .ok (.astore_n 3, 1) := by decide +kernel
theorem dL_bestAt_13 : decode cL_bestAt 13 = .ok (.iconst 1, 1) := by decide +kernel
theorem dL_bestAt_14 : decode cL_bestAt 14 = .ok (.ireturn, 1) := by decide +kernel
theorem dL_bestAt_15 : decode cL_bestAt 15 = .ok (.iconst 0, 1) := by decide +kernel
theorem dL_bestAt_16 : decode cL_bestAt 16 = .ok (.ireturn, 1) := by decide +kernel
theorem dL_bestEvery_0 : decode cL_bestEvery 0 = .ok (.aload_n 2, 1) := by decide +kernel
theorem dL_bestEvery_1 : decode cL_bestEvery 1 = .ok (.iconst 0, 1) := by decide +kernel
theorem dL_bestEvery_2 : decode cL_bestEvery 2 = .ok (.aload_n 0, 1) := by decide +kernel
theorem dL_bestEvery_3 : decode cL_bestEvery 3 = .ok (.iload_n 1, 1) := by decide +kernel
theorem dL_bestEvery_4 : decode cL_bestEvery 4 = .ok (.invokevirtual 98, 3) := by decide +kernel
theorem dL_bestEvery_7 : decode cL_bestEvery 7 = .ok (.i2l, 1) := by decide +kernel
theorem dL_bestEvery_8 : decode cL_bestEvery 8 = .ok (.lastore, 1) := by decide +kernel
theorem dL_bestEvery_9 : decode cL_bestEvery 9 = .ok (.goto 6, 3) := by decide +kernel
theorem dL_bestEvery_12 : decode cL_bestEvery 12 = .ok (.astore_n 3, 1) := by decide +kernel
theorem dL_bestEvery_13 : decode cL_bestEvery 13 = .ok (.iconst 1, 1) := by decide +kernel
theorem dL_bestEvery_14 : decode cL_bestEvery 14 = .ok (.ireturn, 1) := by decide +kernel
theorem dL_bestEvery_15 : decode cL_bestEvery 15 = .ok (.iconst 0, 1) := by decide +kernel
theorem dL_bestEvery_16 : decode cL_bestEvery 16 = .ok (.ireturn, 1) := by decide +kernel
theorem dL_run_0 : decode cL_run 0 = .ok (.aload_n 2, 1) := by decide +kernel
theorem dL_run_1 : decode cL_run 1 = .ok (.iconst 0, 1) := by decide +kernel
theorem dL_run_2 : decode cL_run 2 = .ok (.aload_n 0, 1) := by decide +kernel
theorem dL_run_3 : decode cL_run 3 = .ok (.iload_n 1, 1) := by decide +kernel
theorem dL_run_4 : decode cL_run 4 = .ok (.invokevirtual 101, 3) := by decide +kernel
theorem dL_run_7 : decode cL_run 7 = .ok (.i2l, 1) := by decide +kernel
theorem dL_run_8 : decode cL_run 8 = .ok (.lastore, 1) := by decide +kernel
theorem dL_run_9 : decode cL_run 9 = .ok (.goto 9, 3) := by decide +kernel
theorem dL_run_12 : decode cL_run 12 = .ok (.astore_n 3, 1) := by decide +kernel
theorem dL_run_13 : decode cL_run 13 = .ok (.iconst 1, 1) := by decide +kernel
theorem dL_run_14 : decode cL_run 14 = .ok (.ireturn, 1) := by decide +kernel
theorem dL_run_15 : decode cL_run 15 = .ok (.astore_n 3, 1) := by decide +kernel
theorem dL_run_16 : decode cL_run 16 = .ok (.iconst 2, 1) := by decide +kernel
theorem dL_run_17 : decode cL_run 17 = .ok (.ireturn, 1) := by decide +kernel
theorem dL_run_18 : decode cL_run 18 = .ok (.iconst 0, 1) := by decide +kernel
theorem dL_run_19 : decode cL_run 19 = .ok (.ireturn, 1) := by decide +kernel
theorem dL_wake_0 : decode cL_wake 0 = .ok (.aload_n 2, 1) := by decide +kernel
theorem dL_wake_1 : decode cL_wake 1 = .ok (.iconst 0, 1) := by decide +kernel
theorem dL_wake_2 : decode cL_wake 2 = .ok (.aload_n 0, 1) := by decide +kernel
theorem dL_wake_3 : decode cL_wake 3 = .ok (.iload_n 1, 1) := by decide +kernel
theorem dL_wake_4 : decode cL_wake 4 = .ok (.invokevirtual 104, 3) := by decide +kernel
theorem dL_wake_7 : decode cL_wake 7 = .ok (.i2l, 1) := by decide +kernel
theorem dL_wake_8 : decode cL_wake 8 = .ok (.lastore, 1) := by decide +kernel
theorem dL_wake_9 : decode cL_wake 9 = .ok (.goto 9, 3) := by decide +kernel
theorem dL_wake_12 : decode cL_wake 12 = .ok (.astore_n 3, 1) := by decide +kernel
theorem dL_wake_13 : decode cL_wake 13 = .ok (.iconst 1, 1) := by decide +kernel
theorem dL_wake_14 : decode cL_wake 14 = .ok (.ireturn, 1) := by decide +kernel
theorem dL_wake_15 : decode cL_wake 15 = .ok (.astore_n 3, 1) := by decide +kernel
theorem dL_wake_16 : decode cL_wake 16 = .ok (.iconst 2, 1) := by decide +kernel
theorem dL_wake_17 : decode cL_wake 17 = .ok (.ireturn, 1) := by decide +kernel
theorem dL_wake_18 : decode cL_wake 18 = .ok (.iconst 0, 1) := by decide +kernel
theorem dL_wake_19 : decode cL_wake 19 = .ok (.ireturn, 1) := by decide +kernel
theorem dL_setEvery_0 : decode cL_setEvery 0 = .ok (.aload_n 3, 1) := by decide +kernel
theorem dL_setEvery_1 : decode cL_setEvery 1 = .ok (.iconst 0, 1) := by decide +kernel
theorem dL_setEvery_2 : decode cL_setEvery 2 = .ok (.aload_n 0, 1) := by decide +kernel
theorem dL_setEvery_3 : decode cL_setEvery 3 = .ok (.iload_n 1, 1) := by decide +kernel
theorem dL_setEvery_4 : decode cL_setEvery 4 = .ok (.iload_n 2, 1) := by decide +kernel
theorem dL_setEvery_5 : decode cL_setEvery 5 = .ok (.invokevirtual 107, 3) := by decide +kernel
theorem dL_setEvery_8 : decode cL_setEvery 8 = .ok (.i2l, 1) := by decide +kernel
theorem dL_setEvery_9 : decode cL_setEvery 9 = .ok (.lastore, 1) := by decide +kernel
theorem dL_setEvery_10 : decode cL_setEvery 10 = .ok (.goto 11, 3) := by decide +kernel
theorem dL_setEvery_13 : decode cL_setEvery 13 = .ok (.astore 4, 2) := by decide +kernel
theorem dL_setEvery_15 : decode cL_setEvery 15 = .ok (.iconst 1, 1) := by decide +kernel
theorem dL_setEvery_16 : decode cL_setEvery 16 = .ok (.ireturn, 1) := by decide +kernel
theorem dL_setEvery_17 : decode cL_setEvery 17 = .ok (.astore 4, 2) := by decide +kernel
theorem dL_setEvery_19 : decode cL_setEvery 19 = .ok (.iconst 2, 1) := by decide +kernel
theorem dL_setEvery_20 : decode cL_setEvery 20 = .ok (.ireturn, 1) := by decide +kernel
theorem dL_setEvery_21 : decode cL_setEvery 21 = .ok (.iconst 0, 1) := by decide +kernel
theorem dL_setEvery_22 : decode cL_setEvery 22 = .ok (.ireturn, 1) := by decide +kernel
theorem dL_setAt_0 : decode cL_setAt 0 = .ok (.aload_n 3, 1) := by decide +kernel
theorem dL_setAt_1 : decode cL_setAt 1 = .ok (.iconst 0, 1) := by decide +kernel
theorem dL_setAt_2 : decode cL_setAt 2 = .ok (.aload_n 0, 1) := by decide +kernel
theorem dL_setAt_3 : decode cL_setAt 3 = .ok (.iload_n 1, 1) := by decide +kernel
theorem dL_setAt_4 : decode cL_setAt 4 = .ok (.iload_n 2, 1) := by decide +kernel
theorem dL_setAt_5 : decode cL_setAt 5 = .ok (.invokevirtual 110, 3) := by decide +kernel
theorem dL_setAt_8 : decode cL_setAt 8 = .ok (.i2l, 1) := by decide +kernel
theorem dL_setAt_9 : decode cL_setAt 9 = .ok (.lastore, 1) := by decide +kernel
theorem dL_setAt_10 : decode cL_setAt 10 = .ok (.goto 11, 3) := by decide +kernel
theorem dL_setAt_13 : decode cL_setAt 13 = .ok (.astore 4, 2) := by decide +kernel
theorem dL_setAt_15 : decode cL_setAt 15 = .ok (.iconst 1, 1) := by decide +kernel
theorem dL_setAt_16 : decode cL_setAt 16 = .ok (.ireturn, 1) := by decide +kernel
theorem dL_setAt_17 : decode cL_setAt 17 = .ok (.astore 4, 2) := by decide +kernel
theorem dL_setAt_19 : decode cL_setAt 19 = .ok (.iconst 2, 1) := by decide +kernel
theorem dL_setAt_20 : decode cL_setAt 20 = .ok (.ireturn, 1) := by decide +kernel
theorem dL_setAt_21 : decode cL_setAt 21 = .ok (.iconst 0, 1) := by decide +kernel
theorem dL_setAt_22 : decode cL_setAt 22 = .ok (.ireturn, 1) := by decide +kernel
theorem dL_charge_0 : decode cL_charge 0 = .ok (.aload_n 3, 1) := by decide +kernel
theorem dL_charge_1 : decode cL_charge 1 = .ok (.iconst 0, 1) := by decide +kernel
theorem dL_charge_2 : decode cL_charge 2 = .ok (.aload_n 0, 1) := by decide +kernel
theorem dL_charge_3 : decode cL_charge 3 = .ok (.iload_n 1, 1) := by decide +kernel
theorem dL_charge_4 : decode cL_charge 4 = .ok (.iload_n 2, 1) := by decide +kernel
theorem dL_charge_5 : decode cL_charge 5 = .ok (.invokevirtual 113, 3) := by decide +kernel
theorem dL_charge_8 : decode cL_charge 8 = .ok (.i2l, 1) := by decide +kernel
theorem dL_charge_9 : decode cL_charge 9 = .ok (.lastore, 1) := by decide +kernel
theorem dL_charge_10 : decode cL_charge 10 = .ok (.goto 11, 3) := by decide +kernel
theorem dL_charge_13 : decode cL_charge 13 = .ok (.astore 4, 2) := by decide +kernel
theorem dL_charge_15 : decode cL_charge 15 = .ok (.iconst 1, 1) := by decide +kernel
theorem dL_charge_16 : decode cL_charge 16 = .ok (.ireturn, 1) := by decide +kernel
theorem dL_charge_17 : decode cL_charge 17 = .ok (.astore 4, 2) := by decide +kernel
theorem dL_charge_19 : decode cL_charge 19 = .ok (.iconst 2, 1) := by decide +kernel
theorem dL_charge_20 : decode cL_charge 20 = .ok (.ireturn, 1) := by decide +kernel
theorem dL_charge_21 : decode cL_charge 21 = .ok (.iconst 0, 1) := by decide +kernel
theorem dL_charge_22 : decode cL_charge 22 = .ok (.ireturn, 1) := by decide +kernel
theorem dL_setNear_0 : decode cL_setNear 0 = .ok (.aload 4, 2) := by decide +kernel
theorem dL_setNear_2 : decode cL_setNear 2 = .ok (.iconst 0, 1) := by decide +kernel
theorem dL_setNear_3 : decode cL_setNear 3 = .ok (.aload_n 0, 1) := by decide +kernel
theorem dL_setNear_4 : decode cL_setNear 4 = .ok (.iload_n 1, 1) := by decide +kernel
theorem dL_setNear_5 : decode cL_setNear 5 = .ok (.iload_n 2, 1) := by decide +kernel
theorem dL_setNear_6 : decode cL_setNear 6 = .ok (.iload_n 3, 1) := by decide +kernel
theorem dL_setNear_7 : decode cL_setNear 7 = .ok (.invokevirtual 116, 3) := by decide +kernel
theorem dL_setNear_10 : decode cL_setNear 10 = .ok (.ifCond .eq 7, 3) := by decide +kernel
theorem dL_setNear_13 : decode cL_setNear 13 = .ok (.lconst 1, 1) := by decide +kernel
theorem dL_setNear_14 : decode cL_setNear 14 = .ok (.goto 4, 3) := by decide +kernel
theorem dL_setNear_17 : decode cL_setNear 17 = .ok (.lconst 0, 1) := by decide +kernel
theorem dL_setNear_18 : decode cL_setNear 18 = .ok (.lastore, 1) := by decide +kernel
theorem dL_setNear_19 : decode cL_setNear 19 = .ok (.goto 11, 3) := by decide +kernel
theorem dL_setNear_22 : decode cL_setNear 22 = .ok (.astore 5, 2) := by decide +kernel
theorem dL_setNear_24 : decode cL_setNear 24 = .ok (.iconst 1, 1) := by decide +kernel
theorem dL_setNear_25 : decode cL_setNear 25 = .ok (.ireturn, 1) := by decide +kernel
theorem dL_setNear_26 : decode cL_setNear 26 = .ok (.astore 5, 2) := by decide +kernel
theorem dL_setNear_28 : decode cL_setNear 28 = .ok (.iconst 2, 1) := by decide +kernel
theorem dL_setNear_29 : decode cL_setNear 29 = .ok (.ireturn, 1) := by decide +kernel
theorem dL_setNear_30 : decode cL_setNear 30 = .ok (.iconst 0, 1) := by decide +kernel
theorem dL_setNear_31 : decode cL_setNear 31 = .ok (.ireturn, 1) := by decide +kernel
theorem dL_setTries_0 : decode cL_setTries 0 = .ok (.aload_n 2, 1) := by decide +kernel
theorem dL_setTries_1 : decode cL_setTries 1 = .ok (.iconst 0, 1) := by decide +kernel
theorem dL_setTries_2 : decode cL_setTries 2 = .ok (.aload_n 0, 1) := by decide +kernel
theorem dL_setTries_3 : decode cL_setTries 3 = .ok (.iload_n 1, 1) := by decide +kernel
theorem dL_setTries_4 : decode cL_setTries 4 = .ok (.invokevirtual 120, 3) := by decide +kernel
theorem dL_setTries_7 : decode cL_setTries 7 = .ok (.i2l, 1) := by decide +kernel
theorem dL_setTries_8 : decode cL_setTries 8 = .ok (.lastore, 1) := by decide +kernel
theorem dL_setTries_9 : decode cL_setTries 9 = .ok (.goto 6, 3) := by decide +kernel
theorem dL_setTries_12 : decode cL_setTries 12 = .ok (.astore_n 3, 1) := by decide +kernel
theorem dL_setTries_13 : decode cL_setTries 13 = .ok (.iconst 1, 1) := by decide +kernel
theorem dL_setTries_14 : decode cL_setTries 14 = .ok (.ireturn, 1) := by decide +kernel
theorem dL_setTries_15 : decode cL_setTries 15 = .ok (.iconst 0, 1) := by decide +kernel
theorem dL_setTries_16 : decode cL_setTries 16 = .ok (.ireturn, 1) := by decide +kernel
theorem dL_reportByte_0 : decode cL_reportByte 0 = .ok (.aload_n 2, 1) := by decide +kernel
theorem dL_reportByte_1 : decode cL_reportByte 1 = .ok (.iconst 0, 1) := by decide +kernel
theorem dL_reportByte_2 : decode cL_reportByte 2 = .ok (.aload_n 0, 1) := by decide +kernel
theorem dL_reportByte_3 : decode cL_reportByte 3 = .ok (.iload_n 1, 1) := by decide +kernel
theorem dL_reportByte_4 : decode cL_reportByte 4 = .ok (.invokevirtual 123, 3) := by decide +kernel
theorem dL_reportByte_7 : decode cL_reportByte 7 = .ok (.i2l, 1) := by decide +kernel
theorem dL_reportByte_8 : decode cL_reportByte 8 = .ok (.lastore, 1) := by decide +kernel
theorem dL_reportByte_9 : decode cL_reportByte 9 = .ok (.goto 6, 3) := by decide +kernel
theorem dL_reportByte_12 : decode cL_reportByte 12 = .ok (.astore_n 3, 1) := by decide +kernel
theorem dL_reportByte_13 : decode cL_reportByte 13 = .ok (.iconst 1, 1) := by decide +kernel
theorem dL_reportByte_14 : decode cL_reportByte 14 = .ok (.ireturn, 1) := by decide +kernel
theorem dL_reportByte_15 : decode cL_reportByte 15 = .ok (.iconst 0, 1) := by decide +kernel
theorem dL_reportByte_16 : decode cL_reportByte 16 = .ok (.ireturn, 1) := by decide +kernel
theorem dL_restore_0 : decode cL_restore 0 = .ok (.aload_n 1, 1) := by decide +kernel
theorem dL_restore_1 : decode cL_restore 1 = .ok (.iconst 0, 1) := by decide +kernel
theorem dL_restore_2 : decode cL_restore 2 = .ok (.aload_n 0, 1) := by decide +kernel
theorem dL_restore_3 : decode cL_restore 3 = .ok (.invokevirtual 126, 3) := by decide +kernel
theorem dL_restore_6 : decode cL_restore 6 = .ok (.i2l, 1) := by decide +kernel
theorem dL_restore_7 : decode cL_restore 7 = .ok (.lastore, 1) := by decide +kernel
theorem dL_restore_8 : decode cL_restore 8 = .ok (.goto 6, 3) := by decide +kernel
theorem dL_restore_11 : decode cL_restore 11 = .ok (.astore_n 2, 1) := by decide +kernel
theorem dL_restore_12 : decode cL_restore 12 = .ok (.iconst 1, 1) := by decide +kernel
theorem dL_restore_13 : decode cL_restore 13 = .ok (.ireturn, 1) := by decide +kernel
theorem dL_restore_14 : decode cL_restore 14 = .ok (.iconst 0, 1) := by decide +kernel
theorem dL_restore_15 : decode cL_restore 15 = .ok (.ireturn, 1) := by decide +kernel
theorem dL_law_0 : decode cL_law 0 = .ok (.new 8, 3) := by decide +kernel
theorem dL_law_3 : decode cL_law 3 = .ok (.dup, 1) := by decide +kernel
theorem dL_law_4 : decode cL_law 4 = .ok (.invokespecial 129, 3) := by decide +kernel
theorem dL_law_7 : decode cL_law 7 = .ok (.astore_n 1, 1) := by decide +kernel
theorem dL_law_8 : decode cL_law 8 = .ok (.new 130, 3) := by decide +kernel
theorem dL_law_11 : decode cL_law 11 = .ok (.dup, 1) := by decide +kernel
theorem dL_law_12 : decode cL_law 12 = .ok (.invokespecial 132, 3) := by decide +kernel
theorem dL_law_15 : decode cL_law 15 = .ok (.astore_n 2, 1) := by decide +kernel
theorem dL_law_16 : decode cL_law 16 = .ok (.iconst 1, 1) := by decide +kernel
theorem dL_law_17 : decode cL_law 17 = .ok (.newarray .long, 2) := by decide +kernel
theorem dL_law_19 : decode cL_law 19 = .ok (.astore_n 3, 1) := by decide +kernel
theorem dL_law_20 : decode cL_law 20 = .ok (.iconst 0, 1) := by decide +kernel
theorem dL_law_21 : decode cL_law 21 = .ok (.istore 4, 2) := by decide +kernel
theorem dL_law_23 : decode cL_law 23 = .ok (.iload 4, 2) := by decide +kernel
theorem dL_law_25 : decode cL_law 25 = .ok (.aload_n 0, 1) := by decide +kernel
theorem dL_law_26 : decode cL_law 26 = .ok (.arraylength, 1) := by decide +kernel
theorem dL_law_27 : decode cL_law 27 = .ok (.bipush 6, 2) := by decide +kernel
theorem dL_law_29 : decode cL_law 29 = .ok (.isub, 1) := by decide +kernel
theorem dL_law_30 : decode cL_law 30 = .ok (.if_icmp .gt 2642, 3) := by decide +kernel
theorem dL_law_33 : decode cL_law 33 = .ok (.aload_n 0, 1) := by decide +kernel
theorem dL_law_34 : decode cL_law 34 = .ok (.iload 4, 2) := by decide +kernel
theorem dL_law_36 : decode cL_law 36 = .ok (.iaload, 1) := by decide +kernel
theorem dL_law_37 : decode cL_law 37 = .ok (.bipush 63, 2) := by decide +kernel
theorem dL_law_39 : decode cL_law 39 = .ok (.iand, 1) := by decide +kernel
theorem dL_law_40 : decode cL_law 40 = .ok (.tableswitch 2626 0 45 #[200, 304, 360, 404, 448, 461, 474, 530, 598, 666, 722, 790, 858, 933, 976, 1017, 1073, 1141, 1197, 1253, 1321, 1334, 1390, 1403, 1459, 1527, 1595, 1651, 1719, 1732, 1788, 1844, 1900, 1956, 2012, 2068, 2124, 2192, 2260, 2328, 2431, 2487, 2500, 2556, 2569, 2582], 200) := by decide +kernel
theorem dL_law_240 : decode cL_law 240 = .ok (.aload_n 1, 1) := by decide +kernel
theorem dL_law_241 : decode cL_law 241 = .ok (.aload_n 0, 1) := by decide +kernel
theorem dL_law_242 : decode cL_law 242 = .ok (.iload 4, 2) := by decide +kernel
theorem dL_law_244 : decode cL_law 244 = .ok (.iconst 1, 1) := by decide +kernel
theorem dL_law_245 : decode cL_law 245 = .ok (.iadd, 1) := by decide +kernel
theorem dL_law_246 : decode cL_law 246 = .ok (.iaload, 1) := by decide +kernel
theorem dL_law_247 : decode cL_law 247 = .ok (.aload_n 0, 1) := by decide +kernel
theorem dL_law_248 : decode cL_law 248 = .ok (.iload 4, 2) := by decide +kernel
theorem dL_law_250 : decode cL_law 250 = .ok (.iconst 2, 1) := by decide +kernel
theorem dL_law_251 : decode cL_law 251 = .ok (.iadd, 1) := by decide +kernel
theorem dL_law_252 : decode cL_law 252 = .ok (.iaload, 1) := by decide +kernel
theorem dL_law_253 : decode cL_law 253 = .ok (.aload_n 0, 1) := by decide +kernel
theorem dL_law_254 : decode cL_law 254 = .ok (.iload 4, 2) := by decide +kernel
theorem dL_law_256 : decode cL_law 256 = .ok (.iconst 3, 1) := by decide +kernel
theorem dL_law_257 : decode cL_law 257 = .ok (.iadd, 1) := by decide +kernel
theorem dL_law_258 : decode cL_law 258 = .ok (.iaload, 1) := by decide +kernel
theorem dL_law_259 : decode cL_law 259 = .ok (.aload_n 0, 1) := by decide +kernel
theorem dL_law_260 : decode cL_law 260 = .ok (.iload 4, 2) := by decide +kernel
theorem dL_law_262 : decode cL_law 262 = .ok (.iconst 4, 1) := by decide +kernel
theorem dL_law_263 : decode cL_law 263 = .ok (.iadd, 1) := by decide +kernel
theorem dL_law_264 : decode cL_law 264 = .ok (.iaload, 1) := by decide +kernel
theorem dL_law_265 : decode cL_law 265 = .ok (.aload_n 0, 1) := by decide +kernel
theorem dL_law_266 : decode cL_law 266 = .ok (.iload 4, 2) := by decide +kernel
theorem dL_law_268 : decode cL_law 268 = .ok (.iconst 5, 1) := by decide +kernel
theorem dL_law_269 : decode cL_law 269 = .ok (.iadd, 1) := by decide +kernel
theorem dL_law_270 : decode cL_law 270 = .ok (.iaload, 1) := by decide +kernel
theorem dL_law_271 : decode cL_law 271 = .ok (.aload_n 3, 1) := by decide +kernel
theorem dL_law_272 : decode cL_law 272 = .ok (.invokestatic 133, 3) := by decide +kernel
theorem dL_law_275 : decode cL_law 275 = .ok (.istore 5, 2) := by decide +kernel
theorem dL_law_277 : decode cL_law 277 = .ok (.aload_n 2, 1) := by decide +kernel
theorem dL_law_278 : decode cL_law 278 = .ok (.aload_n 0, 1) := by decide +kernel
theorem dL_law_279 : decode cL_law 279 = .ok (.iload 4, 2) := by decide +kernel
theorem dL_law_281 : decode cL_law 281 = .ok (.iconst 1, 1) := by decide +kernel
theorem dL_law_282 : decode cL_law 282 = .ok (.iadd, 1) := by decide +kernel
theorem dL_law_283 : decode cL_law 283 = .ok (.iaload, 1) := by decide +kernel
theorem dL_law_284 : decode cL_law 284 = .ok (.aload_n 0, 1) := by decide +kernel
theorem dL_law_285 : decode cL_law 285 = .ok (.iload 4, 2) := by decide +kernel
theorem dL_law_287 : decode cL_law 287 = .ok (.iconst 2, 1) := by decide +kernel
theorem dL_law_288 : decode cL_law 288 = .ok (.iadd, 1) := by decide +kernel
theorem dL_law_289 : decode cL_law 289 = .ok (.iaload, 1) := by decide +kernel
theorem dL_law_290 : decode cL_law 290 = .ok (.aload_n 0, 1) := by decide +kernel
theorem dL_law_291 : decode cL_law 291 = .ok (.iload 4, 2) := by decide +kernel
theorem dL_law_293 : decode cL_law 293 = .ok (.iconst 3, 1) := by decide +kernel
theorem dL_law_294 : decode cL_law 294 = .ok (.iadd, 1) := by decide +kernel
theorem dL_law_295 : decode cL_law 295 = .ok (.iaload, 1) := by decide +kernel
theorem dL_law_296 : decode cL_law 296 = .ok (.aload_n 0, 1) := by decide +kernel
theorem dL_law_297 : decode cL_law 297 = .ok (.iload 4, 2) := by decide +kernel
theorem dL_law_299 : decode cL_law 299 = .ok (.iconst 4, 1) := by decide +kernel
theorem dL_law_300 : decode cL_law 300 = .ok (.iadd, 1) := by decide +kernel
theorem dL_law_301 : decode cL_law 301 = .ok (.iaload, 1) := by decide +kernel
theorem dL_law_302 : decode cL_law 302 = .ok (.aload_n 0, 1) := by decide +kernel
theorem dL_law_303 : decode cL_law 303 = .ok (.iload 4, 2) := by decide +kernel
theorem dL_law_305 : decode cL_law 305 = .ok (.iconst 5, 1) := by decide +kernel
theorem dL_law_306 : decode cL_law 306 = .ok (.iadd, 1) := by decide +kernel
theorem dL_law_307 : decode cL_law 307 = .ok (.iaload, 1) := by decide +kernel
theorem dL_law_308 : decode cL_law 308 = .ok (.invokevirtual 138, 3) := by decide +kernel
theorem dL_law_311 : decode cL_law 311 = .ok (.istore 6, 2) := by decide +kernel
theorem dL_law_313 : decode cL_law 313 = .ok (.aload_n 2, 1) := by decide +kernel
theorem dL_law_314 : decode cL_law 314 = .ok (.invokevirtual 139, 3) := by decide +kernel
theorem dL_law_317 : decode cL_law 317 = .ok (.iload 5, 2) := by decide +kernel
theorem dL_law_319 : decode cL_law 319 = .ok (.if_icmp .eq 5, 3) := by decide +kernel
theorem dL_law_322 : decode cL_law 322 = .ok (.iconst 0, 1) := by decide +kernel
theorem dL_law_323 : decode cL_law 323 = .ok (.ireturn, 1) := by decide +kernel
theorem dL_law_324 : decode cL_law 324 = .ok (.iload 5, 2) := by decide +kernel
theorem dL_law_326 : decode cL_law 326 = .ok (.ifCond .ne 15, 3) := by decide +kernel
theorem dL_law_329 : decode cL_law 329 = .ok (.aload_n 3, 1) := by decide +kernel
theorem dL_law_330 : decode cL_law 330 = .ok (.iconst 0, 1) := by decide +kernel
theorem dL_law_331 : decode cL_law 331 = .ok (.laload, 1) := by decide +kernel
theorem dL_law_332 : decode cL_law 332 = .ok (.iload 6, 2) := by decide +kernel
theorem dL_law_334 : decode cL_law 334 = .ok (.i2l, 1) := by decide +kernel
theorem dL_law_335 : decode cL_law 335 = .ok (.lcmp, 1) := by decide +kernel
theorem dL_law_336 : decode cL_law 336 = .ok (.ifCond .eq 5, 3) := by decide +kernel
theorem dL_law_339 : decode cL_law 339 = .ok (.iconst 0, 1) := by decide +kernel
theorem dL_law_340 : decode cL_law 340 = .ok (.ireturn, 1) := by decide +kernel
theorem dL_law_341 : decode cL_law 341 = .ok (.goto 2325, 3) := by decide +kernel
theorem dL_law_344 : decode cL_law 344 = .ok (.aload_n 1, 1) := by decide +kernel
theorem dL_law_345 : decode cL_law 345 = .ok (.aload_n 0, 1) := by decide +kernel
theorem dL_law_346 : decode cL_law 346 = .ok (.iload 4, 2) := by decide +kernel
theorem dL_law_348 : decode cL_law 348 = .ok (.iconst 1, 1) := by decide +kernel
theorem dL_law_349 : decode cL_law 349 = .ok (.iadd, 1) := by decide +kernel
theorem dL_law_350 : decode cL_law 350 = .ok (.iaload, 1) := by decide +kernel
theorem dL_law_351 : decode cL_law 351 = .ok (.aload_n 3, 1) := by decide +kernel
theorem dL_law_352 : decode cL_law 352 = .ok (.invokestatic 142, 3) := by decide +kernel
theorem dL_law_355 : decode cL_law 355 = .ok (.istore 5, 2) := by decide +kernel
theorem dL_law_357 : decode cL_law 357 = .ok (.aload_n 2, 1) := by decide +kernel
theorem dL_law_358 : decode cL_law 358 = .ok (.aload_n 0, 1) := by decide +kernel
theorem dL_law_359 : decode cL_law 359 = .ok (.iload 4, 2) := by decide +kernel
theorem dL_law_361 : decode cL_law 361 = .ok (.iconst 1, 1) := by decide +kernel
theorem dL_law_362 : decode cL_law 362 = .ok (.iadd, 1) := by decide +kernel
theorem dL_law_363 : decode cL_law 363 = .ok (.iaload, 1) := by decide +kernel
theorem dL_law_364 : decode cL_law 364 = .ok (.invokevirtual 145, 3) := by decide +kernel
theorem dL_law_367 : decode cL_law 367 = .ok (.istore 6, 2) := by decide +kernel
theorem dL_law_369 : decode cL_law 369 = .ok (.aload_n 2, 1) := by decide +kernel
theorem dL_law_370 : decode cL_law 370 = .ok (.invokevirtual 139, 3) := by decide +kernel
theorem dL_law_373 : decode cL_law 373 = .ok (.iload 5, 2) := by decide +kernel
theorem dL_law_375 : decode cL_law 375 = .ok (.if_icmp .eq 5, 3) := by decide +kernel
theorem dL_law_378 : decode cL_law 378 = .ok (.iconst 0, 1) := by decide +kernel
theorem dL_law_379 : decode cL_law 379 = .ok (.ireturn, 1) := by decide +kernel
theorem dL_law_380 : decode cL_law 380 = .ok (.iload 5, 2) := by decide +kernel
theorem dL_law_382 : decode cL_law 382 = .ok (.ifCond .ne 15, 3) := by decide +kernel
theorem dL_law_385 : decode cL_law 385 = .ok (.aload_n 3, 1) := by decide +kernel
theorem dL_law_386 : decode cL_law 386 = .ok (.iconst 0, 1) := by decide +kernel
theorem dL_law_387 : decode cL_law 387 = .ok (.laload, 1) := by decide +kernel
theorem dL_law_388 : decode cL_law 388 = .ok (.iload 6, 2) := by decide +kernel
theorem dL_law_390 : decode cL_law 390 = .ok (.i2l, 1) := by decide +kernel
theorem dL_law_391 : decode cL_law 391 = .ok (.lcmp, 1) := by decide +kernel
theorem dL_law_392 : decode cL_law 392 = .ok (.ifCond .eq 5, 3) := by decide +kernel
theorem dL_law_395 : decode cL_law 395 = .ok (.iconst 0, 1) := by decide +kernel
theorem dL_law_396 : decode cL_law 396 = .ok (.ireturn, 1) := by decide +kernel
theorem dL_law_397 : decode cL_law 397 = .ok (.goto 2269, 3) := by decide +kernel
theorem dL_law_400 : decode cL_law 400 = .ok (.aload_n 1, 1) := by decide +kernel
theorem dL_law_401 : decode cL_law 401 = .ok (.aload_n 3, 1) := by decide +kernel
theorem dL_law_402 : decode cL_law 402 = .ok (.invokestatic 146, 3) := by decide +kernel
theorem dL_law_405 : decode cL_law 405 = .ok (.istore 5, 2) := by decide +kernel
theorem dL_law_407 : decode cL_law 407 = .ok (.aload_n 2, 1) := by decide +kernel
theorem dL_law_408 : decode cL_law 408 = .ok (.invokevirtual 149, 3) := by decide +kernel
theorem dL_law_411 : decode cL_law 411 = .ok (.istore 6, 2) := by decide +kernel
theorem dL_law_413 : decode cL_law 413 = .ok (.aload_n 2, 1) := by decide +kernel
theorem dL_law_414 : decode cL_law 414 = .ok (.invokevirtual 139, 3) := by decide +kernel
theorem dL_law_417 : decode cL_law 417 = .ok (.iload 5, 2) := by decide +kernel
theorem dL_law_419 : decode cL_law 419 = .ok (.if_icmp .eq 5, 3) := by decide +kernel
theorem dL_law_422 : decode cL_law 422 = .ok (.iconst 0, 1) := by decide +kernel
theorem dL_law_423 : decode cL_law 423 = .ok (.ireturn, 1) := by decide +kernel
theorem dL_law_424 : decode cL_law 424 = .ok (.iload 5, 2) := by decide +kernel
theorem dL_law_426 : decode cL_law 426 = .ok (.ifCond .ne 15, 3) := by decide +kernel
theorem dL_law_429 : decode cL_law 429 = .ok (.aload_n 3, 1) := by decide +kernel
theorem dL_law_430 : decode cL_law 430 = .ok (.iconst 0, 1) := by decide +kernel
theorem dL_law_431 : decode cL_law 431 = .ok (.laload, 1) := by decide +kernel
theorem dL_law_432 : decode cL_law 432 = .ok (.iload 6, 2) := by decide +kernel
theorem dL_law_434 : decode cL_law 434 = .ok (.i2l, 1) := by decide +kernel
theorem dL_law_435 : decode cL_law 435 = .ok (.lcmp, 1) := by decide +kernel
theorem dL_law_436 : decode cL_law 436 = .ok (.ifCond .eq 5, 3) := by decide +kernel
theorem dL_law_439 : decode cL_law 439 = .ok (.iconst 0, 1) := by decide +kernel
theorem dL_law_440 : decode cL_law 440 = .ok (.ireturn, 1) := by decide +kernel
theorem dL_law_441 : decode cL_law 441 = .ok (.goto 2225, 3) := by decide +kernel
theorem dL_law_444 : decode cL_law 444 = .ok (.aload_n 1, 1) := by decide +kernel
theorem dL_law_445 : decode cL_law 445 = .ok (.aload_n 3, 1) := by decide +kernel
theorem dL_law_446 : decode cL_law 446 = .ok (.invokestatic 150, 3) := by decide +kernel
theorem dL_law_449 : decode cL_law 449 = .ok (.istore 5, 2) := by decide +kernel
theorem dL_law_451 : decode cL_law 451 = .ok (.aload_n 2, 1) := by decide +kernel
theorem dL_law_452 : decode cL_law 452 = .ok (.invokevirtual 152, 3) := by decide +kernel
theorem dL_law_455 : decode cL_law 455 = .ok (.istore 6, 2) := by decide +kernel
theorem dL_law_457 : decode cL_law 457 = .ok (.aload_n 2, 1) := by decide +kernel
theorem dL_law_458 : decode cL_law 458 = .ok (.invokevirtual 139, 3) := by decide +kernel
theorem dL_law_461 : decode cL_law 461 = .ok (.iload 5, 2) := by decide +kernel
theorem dL_law_463 : decode cL_law 463 = .ok (.if_icmp .eq 5, 3) := by decide +kernel
theorem dL_law_466 : decode cL_law 466 = .ok (.iconst 0, 1) := by decide +kernel
theorem dL_law_467 : decode cL_law 467 = .ok (.ireturn, 1) := by decide +kernel
theorem dL_law_468 : decode cL_law 468 = .ok (.iload 5, 2) := by decide +kernel
theorem dL_law_470 : decode cL_law 470 = .ok (.ifCond .ne 15, 3) := by decide +kernel
theorem dL_law_473 : decode cL_law 473 = .ok (.aload_n 3, 1) := by decide +kernel
theorem dL_law_474 : decode cL_law 474 = .ok (.iconst 0, 1) := by decide +kernel
theorem dL_law_475 : decode cL_law 475 = .ok (.laload, 1) := by decide +kernel
theorem dL_law_476 : decode cL_law 476 = .ok (.iload 6, 2) := by decide +kernel
theorem dL_law_478 : decode cL_law 478 = .ok (.i2l, 1) := by decide +kernel
theorem dL_law_479 : decode cL_law 479 = .ok (.lcmp, 1) := by decide +kernel
theorem dL_law_480 : decode cL_law 480 = .ok (.ifCond .eq 5, 3) := by decide +kernel
theorem dL_law_483 : decode cL_law 483 = .ok (.iconst 0, 1) := by decide +kernel
theorem dL_law_484 : decode cL_law 484 = .ok (.ireturn, 1) := by decide +kernel
theorem dL_law_485 : decode cL_law 485 = .ok (.goto 2181, 3) := by decide +kernel
theorem dL_law_488 : decode cL_law 488 = .ok (.aload_n 1, 1) := by decide +kernel
theorem dL_law_489 : decode cL_law 489 = .ok (.invokevirtual 153, 3) := by decide +kernel
theorem dL_law_492 : decode cL_law 492 = .ok (.aload_n 2, 1) := by decide +kernel
theorem dL_law_493 : decode cL_law 493 = .ok (.invokevirtual 156, 3) := by decide +kernel
theorem dL_law_496 : decode cL_law 496 = .ok (.if_icmp .eq 2170, 3) := by decide +kernel
theorem dL_law_499 : decode cL_law 499 = .ok (.iconst 0, 1) := by decide +kernel
theorem dL_law_500 : decode cL_law 500 = .ok (.ireturn, 1) := by decide +kernel
theorem dL_law_501 : decode cL_law 501 = .ok (.aload_n 1, 1) := by decide +kernel
theorem dL_law_502 : decode cL_law 502 = .ok (.invokevirtual 157, 3) := by decide +kernel
theorem dL_law_505 : decode cL_law 505 = .ok (.aload_n 2, 1) := by decide +kernel
theorem dL_law_506 : decode cL_law 506 = .ok (.invokevirtual 160, 3) := by decide +kernel
theorem dL_law_509 : decode cL_law 509 = .ok (.if_icmp .eq 2157, 3) := by decide +kernel
theorem dL_law_512 : decode cL_law 512 = .ok (.iconst 0, 1) := by decide +kernel
theorem dL_law_513 : decode cL_law 513 = .ok (.ireturn, 1) := by decide +kernel
theorem dL_law_514 : decode cL_law 514 = .ok (.aload_n 1, 1) := by decide +kernel
theorem dL_law_515 : decode cL_law 515 = .ok (.aload_n 0, 1) := by decide +kernel
theorem dL_law_516 : decode cL_law 516 = .ok (.iload 4, 2) := by decide +kernel
theorem dL_law_518 : decode cL_law 518 = .ok (.iconst 1, 1) := by decide +kernel
theorem dL_law_519 : decode cL_law 519 = .ok (.iadd, 1) := by decide +kernel
theorem dL_law_520 : decode cL_law 520 = .ok (.iaload, 1) := by decide +kernel
theorem dL_law_521 : decode cL_law 521 = .ok (.aload_n 3, 1) := by decide +kernel
theorem dL_law_522 : decode cL_law 522 = .ok (.invokestatic 161, 3) := by decide +kernel
theorem dL_law_525 : decode cL_law 525 = .ok (.istore 5, 2) := by decide +kernel
theorem dL_law_527 : decode cL_law 527 = .ok (.aload_n 2, 1) := by decide +kernel
theorem dL_law_528 : decode cL_law 528 = .ok (.aload_n 0, 1) := by decide +kernel
theorem dL_law_529 : decode cL_law 529 = .ok (.iload 4, 2) := by decide +kernel
theorem dL_law_531 : decode cL_law 531 = .ok (.iconst 1, 1) := by decide +kernel
theorem dL_law_532 : decode cL_law 532 = .ok (.iadd, 1) := by decide +kernel
theorem dL_law_533 : decode cL_law 533 = .ok (.iaload, 1) := by decide +kernel
theorem dL_law_534 : decode cL_law 534 = .ok (.invokevirtual 163, 3) := by decide +kernel
theorem dL_law_537 : decode cL_law 537 = .ok (.istore 6, 2) := by decide +kernel
theorem dL_law_539 : decode cL_law 539 = .ok (.aload_n 2, 1) := by decide +kernel
theorem dL_law_540 : decode cL_law 540 = .ok (.invokevirtual 139, 3) := by decide +kernel
theorem dL_law_543 : decode cL_law 543 = .ok (.iload 5, 2) := by decide +kernel
theorem dL_law_545 : decode cL_law 545 = .ok (.if_icmp .eq 5, 3) := by decide +kernel
theorem dL_law_548 : decode cL_law 548 = .ok (.iconst 0, 1) := by decide +kernel
theorem dL_law_549 : decode cL_law 549 = .ok (.ireturn, 1) := by decide +kernel
theorem dL_law_550 : decode cL_law 550 = .ok (.iload 5, 2) := by decide +kernel
theorem dL_law_552 : decode cL_law 552 = .ok (.ifCond .ne 15, 3) := by decide +kernel
theorem dL_law_555 : decode cL_law 555 = .ok (.aload_n 3, 1) := by decide +kernel
theorem dL_law_556 : decode cL_law 556 = .ok (.iconst 0, 1) := by decide +kernel
theorem dL_law_557 : decode cL_law 557 = .ok (.laload, 1) := by decide +kernel
theorem dL_law_558 : decode cL_law 558 = .ok (.iload 6, 2) := by decide +kernel
theorem dL_law_560 : decode cL_law 560 = .ok (.i2l, 1) := by decide +kernel
theorem dL_law_561 : decode cL_law 561 = .ok (.lcmp, 1) := by decide +kernel
theorem dL_law_562 : decode cL_law 562 = .ok (.ifCond .eq 5, 3) := by decide +kernel
theorem dL_law_565 : decode cL_law 565 = .ok (.iconst 0, 1) := by decide +kernel
theorem dL_law_566 : decode cL_law 566 = .ok (.ireturn, 1) := by decide +kernel
theorem dL_law_567 : decode cL_law 567 = .ok (.goto 2099, 3) := by decide +kernel
theorem dL_law_570 : decode cL_law 570 = .ok (.aload_n 1, 1) := by decide +kernel
theorem dL_law_571 : decode cL_law 571 = .ok (.aload_n 0, 1) := by decide +kernel
theorem dL_law_572 : decode cL_law 572 = .ok (.iload 4, 2) := by decide +kernel
theorem dL_law_574 : decode cL_law 574 = .ok (.iconst 1, 1) := by decide +kernel
theorem dL_law_575 : decode cL_law 575 = .ok (.iadd, 1) := by decide +kernel
theorem dL_law_576 : decode cL_law 576 = .ok (.iaload, 1) := by decide +kernel
theorem dL_law_577 : decode cL_law 577 = .ok (.aload_n 0, 1) := by decide +kernel
theorem dL_law_578 : decode cL_law 578 = .ok (.iload 4, 2) := by decide +kernel
theorem dL_law_580 : decode cL_law 580 = .ok (.iconst 2, 1) := by decide +kernel
theorem dL_law_581 : decode cL_law 581 = .ok (.iadd, 1) := by decide +kernel
theorem dL_law_582 : decode cL_law 582 = .ok (.iaload, 1) := by decide +kernel
theorem dL_law_583 : decode cL_law 583 = .ok (.aload_n 3, 1) := by decide +kernel
theorem dL_law_584 : decode cL_law 584 = .ok (.invokestatic 164, 3) := by decide +kernel
theorem dL_law_587 : decode cL_law 587 = .ok (.istore 5, 2) := by decide +kernel
theorem dL_law_589 : decode cL_law 589 = .ok (.aload_n 2, 1) := by decide +kernel
theorem dL_law_590 : decode cL_law 590 = .ok (.aload_n 0, 1) := by decide +kernel
theorem dL_law_591 : decode cL_law 591 = .ok (.iload 4, 2) := by decide +kernel
theorem dL_law_593 : decode cL_law 593 = .ok (.iconst 1, 1) := by decide +kernel
theorem dL_law_594 : decode cL_law 594 = .ok (.iadd, 1) := by decide +kernel
theorem dL_law_595 : decode cL_law 595 = .ok (.iaload, 1) := by decide +kernel
theorem dL_law_596 : decode cL_law 596 = .ok (.aload_n 0, 1) := by decide +kernel
theorem dL_law_597 : decode cL_law 597 = .ok (.iload 4, 2) := by decide +kernel
theorem dL_law_599 : decode cL_law 599 = .ok (.iconst 2, 1) := by decide +kernel
theorem dL_law_600 : decode cL_law 600 = .ok (.iadd, 1) := by decide +kernel
theorem dL_law_601 : decode cL_law 601 = .ok (.iaload, 1) := by decide +kernel
theorem dL_law_602 : decode cL_law 602 = .ok (.invokevirtual 167, 3) := by decide +kernel
theorem dL_law_605 : decode cL_law 605 = .ok (.istore 6, 2) := by decide +kernel
theorem dL_law_607 : decode cL_law 607 = .ok (.aload_n 2, 1) := by decide +kernel
theorem dL_law_608 : decode cL_law 608 = .ok (.invokevirtual 139, 3) := by decide +kernel
theorem dL_law_611 : decode cL_law 611 = .ok (.iload 5, 2) := by decide +kernel
theorem dL_law_613 : decode cL_law 613 = .ok (.if_icmp .eq 5, 3) := by decide +kernel
theorem dL_law_616 : decode cL_law 616 = .ok (.iconst 0, 1) := by decide +kernel
theorem dL_law_617 : decode cL_law 617 = .ok (.ireturn, 1) := by decide +kernel
theorem dL_law_618 : decode cL_law 618 = .ok (.iload 5, 2) := by decide +kernel
theorem dL_law_620 : decode cL_law 620 = .ok (.ifCond .ne 15, 3) := by decide +kernel
theorem dL_law_623 : decode cL_law 623 = .ok (.aload_n 3, 1) := by decide +kernel
theorem dL_law_624 : decode cL_law 624 = .ok (.iconst 0, 1) := by decide +kernel
theorem dL_law_625 : decode cL_law 625 = .ok (.laload, 1) := by decide +kernel
theorem dL_law_626 : decode cL_law 626 = .ok (.iload 6, 2) := by decide +kernel
theorem dL_law_628 : decode cL_law 628 = .ok (.i2l, 1) := by decide +kernel
theorem dL_law_629 : decode cL_law 629 = .ok (.lcmp, 1) := by decide +kernel
theorem dL_law_630 : decode cL_law 630 = .ok (.ifCond .eq 5, 3) := by decide +kernel
theorem dL_law_633 : decode cL_law 633 = .ok (.iconst 0, 1) := by decide +kernel
theorem dL_law_634 : decode cL_law 634 = .ok (.ireturn, 1) := by decide +kernel
theorem dL_law_635 : decode cL_law 635 = .ok (.goto 2031, 3) := by decide +kernel
theorem dL_law_638 : decode cL_law 638 = .ok (.aload_n 1, 1) := by decide +kernel
theorem dL_law_639 : decode cL_law 639 = .ok (.aload_n 0, 1) := by decide +kernel
theorem dL_law_640 : decode cL_law 640 = .ok (.iload 4, 2) := by decide +kernel
theorem dL_law_642 : decode cL_law 642 = .ok (.iconst 1, 1) := by decide +kernel
theorem dL_law_643 : decode cL_law 643 = .ok (.iadd, 1) := by decide +kernel
theorem dL_law_644 : decode cL_law 644 = .ok (.iaload, 1) := by decide +kernel
theorem dL_law_645 : decode cL_law 645 = .ok (.aload_n 0, 1) := by decide +kernel
theorem dL_law_646 : decode cL_law 646 = .ok (.iload 4, 2) := by decide +kernel
theorem dL_law_648 : decode cL_law 648 = .ok (.iconst 2, 1) := by decide +kernel
theorem dL_law_649 : decode cL_law 649 = .ok (.iadd, 1) := by decide +kernel
theorem dL_law_650 : decode cL_law 650 = .ok (.iaload, 1) := by decide +kernel
theorem dL_law_651 : decode cL_law 651 = .ok (.aload_n 3, 1) := by decide +kernel
theorem dL_law_652 : decode cL_law 652 = .ok (.invokestatic 168, 3) := by decide +kernel
theorem dL_law_655 : decode cL_law 655 = .ok (.istore 5, 2) := by decide +kernel
theorem dL_law_657 : decode cL_law 657 = .ok (.aload_n 2, 1) := by decide +kernel
theorem dL_law_658 : decode cL_law 658 = .ok (.aload_n 0, 1) := by decide +kernel
theorem dL_law_659 : decode cL_law 659 = .ok (.iload 4, 2) := by decide +kernel
theorem dL_law_661 : decode cL_law 661 = .ok (.iconst 1, 1) := by decide +kernel
theorem dL_law_662 : decode cL_law 662 = .ok (.iadd, 1) := by decide +kernel
theorem dL_law_663 : decode cL_law 663 = .ok (.iaload, 1) := by decide +kernel
theorem dL_law_664 : decode cL_law 664 = .ok (.aload_n 0, 1) := by decide +kernel
theorem dL_law_665 : decode cL_law 665 = .ok (.iload 4, 2) := by decide +kernel
theorem dL_law_667 : decode cL_law 667 = .ok (.iconst 2, 1) := by decide +kernel
theorem dL_law_668 : decode cL_law 668 = .ok (.iadd, 1) := by decide +kernel
theorem dL_law_669 : decode cL_law 669 = .ok (.iaload, 1) := by decide +kernel
theorem dL_law_670 : decode cL_law 670 = .ok (.invokevirtual 170, 3) := by decide +kernel
theorem dL_law_673 : decode cL_law 673 = .ok (.istore 6, 2) := by decide +kernel
theorem dL_law_675 : decode cL_law 675 = .ok (.aload_n 2, 1) := by decide +kernel
theorem dL_law_676 : decode cL_law 676 = .ok (.invokevirtual 139, 3) := by decide +kernel
theorem dL_law_679 : decode cL_law 679 = .ok (.iload 5, 2) := by decide +kernel
theorem dL_law_681 : decode cL_law 681 = .ok (.if_icmp .eq 5, 3) := by decide +kernel
theorem dL_law_684 : decode cL_law 684 = .ok (.iconst 0, 1) := by decide +kernel
theorem dL_law_685 : decode cL_law 685 = .ok (.ireturn, 1) := by decide +kernel
theorem dL_law_686 : decode cL_law 686 = .ok (.iload 5, 2) := by decide +kernel
theorem dL_law_688 : decode cL_law 688 = .ok (.ifCond .ne 15, 3) := by decide +kernel
theorem dL_law_691 : decode cL_law 691 = .ok (.aload_n 3, 1) := by decide +kernel
theorem dL_law_692 : decode cL_law 692 = .ok (.iconst 0, 1) := by decide +kernel
theorem dL_law_693 : decode cL_law 693 = .ok (.laload, 1) := by decide +kernel
theorem dL_law_694 : decode cL_law 694 = .ok (.iload 6, 2) := by decide +kernel
theorem dL_law_696 : decode cL_law 696 = .ok (.i2l, 1) := by decide +kernel
theorem dL_law_697 : decode cL_law 697 = .ok (.lcmp, 1) := by decide +kernel
theorem dL_law_698 : decode cL_law 698 = .ok (.ifCond .eq 5, 3) := by decide +kernel
theorem dL_law_701 : decode cL_law 701 = .ok (.iconst 0, 1) := by decide +kernel
theorem dL_law_702 : decode cL_law 702 = .ok (.ireturn, 1) := by decide +kernel
theorem dL_law_703 : decode cL_law 703 = .ok (.goto 1963, 3) := by decide +kernel
theorem dL_law_706 : decode cL_law 706 = .ok (.aload_n 1, 1) := by decide +kernel
theorem dL_law_707 : decode cL_law 707 = .ok (.aload_n 0, 1) := by decide +kernel
theorem dL_law_708 : decode cL_law 708 = .ok (.iload 4, 2) := by decide +kernel
theorem dL_law_710 : decode cL_law 710 = .ok (.iconst 1, 1) := by decide +kernel
theorem dL_law_711 : decode cL_law 711 = .ok (.iadd, 1) := by decide +kernel
theorem dL_law_712 : decode cL_law 712 = .ok (.iaload, 1) := by decide +kernel
theorem dL_law_713 : decode cL_law 713 = .ok (.aload_n 3, 1) := by decide +kernel
theorem dL_law_714 : decode cL_law 714 = .ok (.invokestatic 171, 3) := by decide +kernel
theorem dL_law_717 : decode cL_law 717 = .ok (.istore 5, 2) := by decide +kernel
theorem dL_law_719 : decode cL_law 719 = .ok (.aload_n 2, 1) := by decide +kernel
theorem dL_law_720 : decode cL_law 720 = .ok (.aload_n 0, 1) := by decide +kernel
theorem dL_law_721 : decode cL_law 721 = .ok (.iload 4, 2) := by decide +kernel
theorem dL_law_723 : decode cL_law 723 = .ok (.iconst 1, 1) := by decide +kernel
theorem dL_law_724 : decode cL_law 724 = .ok (.iadd, 1) := by decide +kernel
theorem dL_law_725 : decode cL_law 725 = .ok (.iaload, 1) := by decide +kernel
theorem dL_law_726 : decode cL_law 726 = .ok (.invokevirtual 173, 3) := by decide +kernel
theorem dL_law_729 : decode cL_law 729 = .ok (.istore 6, 2) := by decide +kernel
theorem dL_law_731 : decode cL_law 731 = .ok (.aload_n 2, 1) := by decide +kernel
theorem dL_law_732 : decode cL_law 732 = .ok (.invokevirtual 139, 3) := by decide +kernel
theorem dL_law_735 : decode cL_law 735 = .ok (.iload 5, 2) := by decide +kernel
theorem dL_law_737 : decode cL_law 737 = .ok (.if_icmp .eq 5, 3) := by decide +kernel
theorem dL_law_740 : decode cL_law 740 = .ok (.iconst 0, 1) := by decide +kernel
theorem dL_law_741 : decode cL_law 741 = .ok (.ireturn, 1) := by decide +kernel
theorem dL_law_742 : decode cL_law 742 = .ok (.iload 5, 2) := by decide +kernel
theorem dL_law_744 : decode cL_law 744 = .ok (.ifCond .ne 15, 3) := by decide +kernel
theorem dL_law_747 : decode cL_law 747 = .ok (.aload_n 3, 1) := by decide +kernel
theorem dL_law_748 : decode cL_law 748 = .ok (.iconst 0, 1) := by decide +kernel
theorem dL_law_749 : decode cL_law 749 = .ok (.laload, 1) := by decide +kernel
theorem dL_law_750 : decode cL_law 750 = .ok (.iload 6, 2) := by decide +kernel
theorem dL_law_752 : decode cL_law 752 = .ok (.i2l, 1) := by decide +kernel
theorem dL_law_753 : decode cL_law 753 = .ok (.lcmp, 1) := by decide +kernel
theorem dL_law_754 : decode cL_law 754 = .ok (.ifCond .eq 5, 3) := by decide +kernel
theorem dL_law_757 : decode cL_law 757 = .ok (.iconst 0, 1) := by decide +kernel
theorem dL_law_758 : decode cL_law 758 = .ok (.ireturn, 1) := by decide +kernel
theorem dL_law_759 : decode cL_law 759 = .ok (.goto 1907, 3) := by decide +kernel
theorem dL_law_762 : decode cL_law 762 = .ok (.aload_n 1, 1) := by decide +kernel
theorem dL_law_763 : decode cL_law 763 = .ok (.aload_n 0, 1) := by decide +kernel
theorem dL_law_764 : decode cL_law 764 = .ok (.iload 4, 2) := by decide +kernel
theorem dL_law_766 : decode cL_law 766 = .ok (.iconst 1, 1) := by decide +kernel
theorem dL_law_767 : decode cL_law 767 = .ok (.iadd, 1) := by decide +kernel
theorem dL_law_768 : decode cL_law 768 = .ok (.iaload, 1) := by decide +kernel
theorem dL_law_769 : decode cL_law 769 = .ok (.aload_n 0, 1) := by decide +kernel
theorem dL_law_770 : decode cL_law 770 = .ok (.iload 4, 2) := by decide +kernel
theorem dL_law_772 : decode cL_law 772 = .ok (.iconst 2, 1) := by decide +kernel
theorem dL_law_773 : decode cL_law 773 = .ok (.iadd, 1) := by decide +kernel
theorem dL_law_774 : decode cL_law 774 = .ok (.iaload, 1) := by decide +kernel
theorem dL_law_775 : decode cL_law 775 = .ok (.aload_n 3, 1) := by decide +kernel
theorem dL_law_776 : decode cL_law 776 = .ok (.invokestatic 174, 3) := by decide +kernel
theorem dL_law_779 : decode cL_law 779 = .ok (.istore 5, 2) := by decide +kernel
theorem dL_law_781 : decode cL_law 781 = .ok (.aload_n 2, 1) := by decide +kernel
theorem dL_law_782 : decode cL_law 782 = .ok (.aload_n 0, 1) := by decide +kernel
theorem dL_law_783 : decode cL_law 783 = .ok (.iload 4, 2) := by decide +kernel
theorem dL_law_785 : decode cL_law 785 = .ok (.iconst 1, 1) := by decide +kernel
theorem dL_law_786 : decode cL_law 786 = .ok (.iadd, 1) := by decide +kernel
theorem dL_law_787 : decode cL_law 787 = .ok (.iaload, 1) := by decide +kernel
theorem dL_law_788 : decode cL_law 788 = .ok (.aload_n 0, 1) := by decide +kernel
theorem dL_law_789 : decode cL_law 789 = .ok (.iload 4, 2) := by decide +kernel
theorem dL_law_791 : decode cL_law 791 = .ok (.iconst 2, 1) := by decide +kernel
theorem dL_law_792 : decode cL_law 792 = .ok (.iadd, 1) := by decide +kernel
theorem dL_law_793 : decode cL_law 793 = .ok (.iaload, 1) := by decide +kernel
theorem dL_law_794 : decode cL_law 794 = .ok (.invokevirtual 176, 3) := by decide +kernel
theorem dL_law_797 : decode cL_law 797 = .ok (.istore 6, 2) := by decide +kernel
theorem dL_law_799 : decode cL_law 799 = .ok (.aload_n 2, 1) := by decide +kernel
theorem dL_law_800 : decode cL_law 800 = .ok (.invokevirtual 139, 3) := by decide +kernel
theorem dL_law_803 : decode cL_law 803 = .ok (.iload 5, 2) := by decide +kernel
theorem dL_law_805 : decode cL_law 805 = .ok (.if_icmp .eq 5, 3) := by decide +kernel
theorem dL_law_808 : decode cL_law 808 = .ok (.iconst 0, 1) := by decide +kernel
theorem dL_law_809 : decode cL_law 809 = .ok (.ireturn, 1) := by decide +kernel
theorem dL_law_810 : decode cL_law 810 = .ok (.iload 5, 2) := by decide +kernel
theorem dL_law_812 : decode cL_law 812 = .ok (.ifCond .ne 15, 3) := by decide +kernel
theorem dL_law_815 : decode cL_law 815 = .ok (.aload_n 3, 1) := by decide +kernel
theorem dL_law_816 : decode cL_law 816 = .ok (.iconst 0, 1) := by decide +kernel
theorem dL_law_817 : decode cL_law 817 = .ok (.laload, 1) := by decide +kernel
theorem dL_law_818 : decode cL_law 818 = .ok (.iload 6, 2) := by decide +kernel
theorem dL_law_820 : decode cL_law 820 = .ok (.i2l, 1) := by decide +kernel
theorem dL_law_821 : decode cL_law 821 = .ok (.lcmp, 1) := by decide +kernel
theorem dL_law_822 : decode cL_law 822 = .ok (.ifCond .eq 5, 3) := by decide +kernel
theorem dL_law_825 : decode cL_law 825 = .ok (.iconst 0, 1) := by decide +kernel
theorem dL_law_826 : decode cL_law 826 = .ok (.ireturn, 1) := by decide +kernel
theorem dL_law_827 : decode cL_law 827 = .ok (.goto 1839, 3) := by decide +kernel
theorem dL_law_830 : decode cL_law 830 = .ok (.aload_n 1, 1) := by decide +kernel
theorem dL_law_831 : decode cL_law 831 = .ok (.aload_n 0, 1) := by decide +kernel
theorem dL_law_832 : decode cL_law 832 = .ok (.iload 4, 2) := by decide +kernel
theorem dL_law_834 : decode cL_law 834 = .ok (.iconst 1, 1) := by decide +kernel
theorem dL_law_835 : decode cL_law 835 = .ok (.iadd, 1) := by decide +kernel
theorem dL_law_836 : decode cL_law 836 = .ok (.iaload, 1) := by decide +kernel
theorem dL_law_837 : decode cL_law 837 = .ok (.aload_n 0, 1) := by decide +kernel
theorem dL_law_838 : decode cL_law 838 = .ok (.iload 4, 2) := by decide +kernel
theorem dL_law_840 : decode cL_law 840 = .ok (.iconst 2, 1) := by decide +kernel
theorem dL_law_841 : decode cL_law 841 = .ok (.iadd, 1) := by decide +kernel
theorem dL_law_842 : decode cL_law 842 = .ok (.iaload, 1) := by decide +kernel
theorem dL_law_843 : decode cL_law 843 = .ok (.aload_n 3, 1) := by decide +kernel
theorem dL_law_844 : decode cL_law 844 = .ok (.invokestatic 177, 3) := by decide +kernel
theorem dL_law_847 : decode cL_law 847 = .ok (.istore 5, 2) := by decide +kernel
theorem dL_law_849 : decode cL_law 849 = .ok (.aload_n 2, 1) := by decide +kernel
theorem dL_law_850 : decode cL_law 850 = .ok (.aload_n 0, 1) := by decide +kernel
theorem dL_law_851 : decode cL_law 851 = .ok (.iload 4, 2) := by decide +kernel
theorem dL_law_853 : decode cL_law 853 = .ok (.iconst 1, 1) := by decide +kernel
theorem dL_law_854 : decode cL_law 854 = .ok (.iadd, 1) := by decide +kernel
theorem dL_law_855 : decode cL_law 855 = .ok (.iaload, 1) := by decide +kernel
theorem dL_law_856 : decode cL_law 856 = .ok (.aload_n 0, 1) := by decide +kernel
theorem dL_law_857 : decode cL_law 857 = .ok (.iload 4, 2) := by decide +kernel
theorem dL_law_859 : decode cL_law 859 = .ok (.iconst 2, 1) := by decide +kernel
theorem dL_law_860 : decode cL_law 860 = .ok (.iadd, 1) := by decide +kernel
theorem dL_law_861 : decode cL_law 861 = .ok (.iaload, 1) := by decide +kernel
theorem dL_law_862 : decode cL_law 862 = .ok (.invokevirtual 179, 3) := by decide +kernel
theorem dL_law_865 : decode cL_law 865 = .ok (.istore 6, 2) := by decide +kernel
theorem dL_law_867 : decode cL_law 867 = .ok (.aload_n 2, 1) := by decide +kernel
theorem dL_law_868 : decode cL_law 868 = .ok (.invokevirtual 139, 3) := by decide +kernel
theorem dL_law_871 : decode cL_law 871 = .ok (.iload 5, 2) := by decide +kernel
theorem dL_law_873 : decode cL_law 873 = .ok (.if_icmp .eq 5, 3) := by decide +kernel
theorem dL_law_876 : decode cL_law 876 = .ok (.iconst 0, 1) := by decide +kernel
theorem dL_law_877 : decode cL_law 877 = .ok (.ireturn, 1) := by decide +kernel
theorem dL_law_878 : decode cL_law 878 = .ok (.iload 5, 2) := by decide +kernel
theorem dL_law_880 : decode cL_law 880 = .ok (.ifCond .ne 15, 3) := by decide +kernel
theorem dL_law_883 : decode cL_law 883 = .ok (.aload_n 3, 1) := by decide +kernel
theorem dL_law_884 : decode cL_law 884 = .ok (.iconst 0, 1) := by decide +kernel
theorem dL_law_885 : decode cL_law 885 = .ok (.laload, 1) := by decide +kernel
theorem dL_law_886 : decode cL_law 886 = .ok (.iload 6, 2) := by decide +kernel
theorem dL_law_888 : decode cL_law 888 = .ok (.i2l, 1) := by decide +kernel
theorem dL_law_889 : decode cL_law 889 = .ok (.lcmp, 1) := by decide +kernel
theorem dL_law_890 : decode cL_law 890 = .ok (.ifCond .eq 5, 3) := by decide +kernel
theorem dL_law_893 : decode cL_law 893 = .ok (.iconst 0, 1) := by decide +kernel
theorem dL_law_894 : decode cL_law 894 = .ok (.ireturn, 1) := by decide +kernel
theorem dL_law_895 : decode cL_law 895 = .ok (.goto 1771, 3) := by decide +kernel
theorem dL_law_898 : decode cL_law 898 = .ok (.aload_n 1, 1) := by decide +kernel
theorem dL_law_899 : decode cL_law 899 = .ok (.aload_n 0, 1) := by decide +kernel
theorem dL_law_900 : decode cL_law 900 = .ok (.iload 4, 2) := by decide +kernel
theorem dL_law_902 : decode cL_law 902 = .ok (.iconst 1, 1) := by decide +kernel
theorem dL_law_903 : decode cL_law 903 = .ok (.iadd, 1) := by decide +kernel
theorem dL_law_904 : decode cL_law 904 = .ok (.iaload, 1) := by decide +kernel
theorem dL_law_905 : decode cL_law 905 = .ok (.aload_n 0, 1) := by decide +kernel
theorem dL_law_906 : decode cL_law 906 = .ok (.iload 4, 2) := by decide +kernel
theorem dL_law_908 : decode cL_law 908 = .ok (.iconst 2, 1) := by decide +kernel
theorem dL_law_909 : decode cL_law 909 = .ok (.iadd, 1) := by decide +kernel
theorem dL_law_910 : decode cL_law 910 = .ok (.iaload, 1) := by decide +kernel
theorem dL_law_911 : decode cL_law 911 = .ok (.aload_n 3, 1) := by decide +kernel
theorem dL_law_912 : decode cL_law 912 = .ok (.invokestatic 180, 3) := by decide +kernel
theorem dL_law_915 : decode cL_law 915 = .ok (.istore 5, 2) := by decide +kernel
theorem dL_law_917 : decode cL_law 917 = .ok (.aload_n 2, 1) := by decide +kernel
theorem dL_law_918 : decode cL_law 918 = .ok (.aload_n 0, 1) := by decide +kernel
theorem dL_law_919 : decode cL_law 919 = .ok (.iload 4, 2) := by decide +kernel
theorem dL_law_921 : decode cL_law 921 = .ok (.iconst 1, 1) := by decide +kernel
theorem dL_law_922 : decode cL_law 922 = .ok (.iadd, 1) := by decide +kernel
theorem dL_law_923 : decode cL_law 923 = .ok (.iaload, 1) := by decide +kernel
theorem dL_law_924 : decode cL_law 924 = .ok (.aload_n 0, 1) := by decide +kernel
theorem dL_law_925 : decode cL_law 925 = .ok (.iload 4, 2) := by decide +kernel
theorem dL_law_927 : decode cL_law 927 = .ok (.iconst 2, 1) := by decide +kernel
theorem dL_law_928 : decode cL_law 928 = .ok (.iadd, 1) := by decide +kernel
theorem dL_law_929 : decode cL_law 929 = .ok (.iaload, 1) := by decide +kernel
theorem dL_law_930 : decode cL_law 930 = .ok (.invokevirtual 182, 3) := by decide +kernel
theorem dL_law_933 : decode cL_law 933 = .ok (.istore 6, 2) := by decide +kernel
theorem dL_law_935 : decode cL_law 935 = .ok (.aload_n 2, 1) := by decide +kernel
theorem dL_law_936 : decode cL_law 936 = .ok (.invokevirtual 139, 3) := by decide +kernel
theorem dL_law_939 : decode cL_law 939 = .ok (.iload 5, 2) := by decide +kernel
theorem dL_law_941 : decode cL_law 941 = .ok (.if_icmp .eq 5, 3) := by decide +kernel
theorem dL_law_944 : decode cL_law 944 = .ok (.iconst 0, 1) := by decide +kernel
theorem dL_law_945 : decode cL_law 945 = .ok (.ireturn, 1) := by decide +kernel
theorem dL_law_946 : decode cL_law 946 = .ok (.iload 5, 2) := by decide +kernel
theorem dL_law_948 : decode cL_law 948 = .ok (.ifCond .ne 22, 3) := by decide +kernel
theorem dL_law_951 : decode cL_law 951 = .ok (.aload_n 3, 1) := by decide +kernel
theorem dL_law_952 : decode cL_law 952 = .ok (.iconst 0, 1) := by decide +kernel
theorem dL_law_953 : decode cL_law 953 = .ok (.laload, 1) := by decide +kernel
theorem dL_law_954 : decode cL_law 954 = .ok (.iload 6, 2) := by decide +kernel
theorem dL_law_956 : decode cL_law 956 = .ok (.ifCond .eq 7, 3) := by decide +kernel
theorem dL_law_959 : decode cL_law 959 = .ok (.lconst 1, 1) := by decide +kernel
theorem dL_law_960 : decode cL_law 960 = .ok (.goto 4, 3) := by decide +kernel
theorem dL_law_963 : decode cL_law 963 = .ok (.lconst 0, 1) := by decide +kernel
theorem dL_law_964 : decode cL_law 964 = .ok (.lcmp, 1) := by decide +kernel
theorem dL_law_965 : decode cL_law 965 = .ok (.ifCond .eq 5, 3) := by decide +kernel
theorem dL_law_968 : decode cL_law 968 = .ok (.iconst 0, 1) := by decide +kernel
theorem dL_law_969 : decode cL_law 969 = .ok (.ireturn, 1) := by decide +kernel
theorem dL_law_970 : decode cL_law 970 = .ok (.goto 1696, 3) := by decide +kernel
theorem dL_law_973 : decode cL_law 973 = .ok (.aload_n 1, 1) := by decide +kernel
theorem dL_law_974 : decode cL_law 974 = .ok (.invokevirtual 183, 3) := by decide +kernel
theorem dL_law_977 : decode cL_law 977 = .ok (.f2d, 1) := by decide +kernel
theorem dL_law_978 : decode cL_law 978 = .ok (.dstore 5, 2) := by decide +kernel
theorem dL_law_980 : decode cL_law 980 = .ok (.aload_n 2, 1) := by decide +kernel
theorem dL_law_981 : decode cL_law 981 = .ok (.invokevirtual 187, 3) := by decide +kernel
theorem dL_law_984 : decode cL_law 984 = .ok (.f2d, 1) := by decide +kernel
theorem dL_law_985 : decode cL_law 985 = .ok (.dstore 7, 2) := by decide +kernel
theorem dL_law_987 : decode cL_law 987 = .ok (.dload 5, 2) := by decide +kernel
theorem dL_law_989 : decode cL_law 989 = .ok (.dload 7, 2) := by decide +kernel
theorem dL_law_991 : decode cL_law 991 = .ok (.dcmp .l, 1) := by decide +kernel
theorem dL_law_992 : decode cL_law 992 = .ok (.ifCond .eq 21, 3) := by decide +kernel
theorem dL_law_995 : decode cL_law 995 = .ok (.dload 5, 2) := by decide +kernel
theorem dL_law_997 : decode cL_law 997 = .ok (.dload 5, 2) := by decide +kernel
theorem dL_law_999 : decode cL_law 999 = .ok (.dcmp .l, 1) := by decide +kernel
theorem dL_law_1000 : decode cL_law 1000 = .ok (.ifCond .eq 11, 3) := by decide +kernel
theorem dL_law_1003 : decode cL_law 1003 = .ok (.dload 7, 2) := by decide +kernel
theorem dL_law_1005 : decode cL_law 1005 = .ok (.dload 7, 2) := by decide +kernel
theorem dL_law_1007 : decode cL_law 1007 = .ok (.dcmp .l, 1) := by decide +kernel
theorem dL_law_1008 : decode cL_law 1008 = .ok (.ifCond .ne 5, 3) := by decide +kernel
theorem dL_law_1011 : decode cL_law 1011 = .ok (.iconst 0, 1) := by decide +kernel
theorem dL_law_1012 : decode cL_law 1012 = .ok (.ireturn, 1) := by decide +kernel
theorem dL_law_1013 : decode cL_law 1013 = .ok (.goto 1653, 3) := by decide +kernel
theorem dL_law_1016 : decode cL_law 1016 = .ok (.aload_n 1, 1) := by decide +kernel
theorem dL_law_1017 : decode cL_law 1017 = .ok (.invokevirtual 188, 3) := by decide +kernel
theorem dL_law_1020 : decode cL_law 1020 = .ok (.dstore 5, 2) := by decide +kernel
theorem dL_law_1022 : decode cL_law 1022 = .ok (.aload_n 2, 1) := by decide +kernel
theorem dL_law_1023 : decode cL_law 1023 = .ok (.invokevirtual 192, 3) := by decide +kernel
theorem dL_law_1026 : decode cL_law 1026 = .ok (.dstore 7, 2) := by decide +kernel
theorem dL_law_1028 : decode cL_law 1028 = .ok (.dload 5, 2) := by decide +kernel
theorem dL_law_1030 : decode cL_law 1030 = .ok (.dload 7, 2) := by decide +kernel
theorem dL_law_1032 : decode cL_law 1032 = .ok (.dcmp .l, 1) := by decide +kernel
theorem dL_law_1033 : decode cL_law 1033 = .ok (.ifCond .eq 21, 3) := by decide +kernel
theorem dL_law_1036 : decode cL_law 1036 = .ok (.dload 5, 2) := by decide +kernel
theorem dL_law_1038 : decode cL_law 1038 = .ok (.dload 5, 2) := by decide +kernel
theorem dL_law_1040 : decode cL_law 1040 = .ok (.dcmp .l, 1) := by decide +kernel
theorem dL_law_1041 : decode cL_law 1041 = .ok (.ifCond .eq 11, 3) := by decide +kernel
theorem dL_law_1044 : decode cL_law 1044 = .ok (.dload 7, 2) := by decide +kernel
theorem dL_law_1046 : decode cL_law 1046 = .ok (.dload 7, 2) := by decide +kernel
theorem dL_law_1048 : decode cL_law 1048 = .ok (.dcmp .l, 1) := by decide +kernel
theorem dL_law_1049 : decode cL_law 1049 = .ok (.ifCond .ne 5, 3) := by decide +kernel
theorem dL_law_1052 : decode cL_law 1052 = .ok (.iconst 0, 1) := by decide +kernel
theorem dL_law_1053 : decode cL_law 1053 = .ok (.ireturn, 1) := by decide +kernel
theorem dL_law_1054 : decode cL_law 1054 = .ok (.goto 1612, 3) := by decide +kernel
theorem dL_law_1057 : decode cL_law 1057 = .ok (.aload_n 1, 1) := by decide +kernel
theorem dL_law_1058 : decode cL_law 1058 = .ok (.aload_n 0, 1) := by decide +kernel
theorem dL_law_1059 : decode cL_law 1059 = .ok (.iload 4, 2) := by decide +kernel
theorem dL_law_1061 : decode cL_law 1061 = .ok (.iconst 1, 1) := by decide +kernel
theorem dL_law_1062 : decode cL_law 1062 = .ok (.iadd, 1) := by decide +kernel
theorem dL_law_1063 : decode cL_law 1063 = .ok (.iaload, 1) := by decide +kernel
theorem dL_law_1064 : decode cL_law 1064 = .ok (.aload_n 3, 1) := by decide +kernel
theorem dL_law_1065 : decode cL_law 1065 = .ok (.invokestatic 193, 3) := by decide +kernel
theorem dL_law_1068 : decode cL_law 1068 = .ok (.istore 5, 2) := by decide +kernel
theorem dL_law_1070 : decode cL_law 1070 = .ok (.aload_n 2, 1) := by decide +kernel
theorem dL_law_1071 : decode cL_law 1071 = .ok (.aload_n 0, 1) := by decide +kernel
theorem dL_law_1072 : decode cL_law 1072 = .ok (.iload 4, 2) := by decide +kernel
theorem dL_law_1074 : decode cL_law 1074 = .ok (.iconst 1, 1) := by decide +kernel
theorem dL_law_1075 : decode cL_law 1075 = .ok (.iadd, 1) := by decide +kernel
theorem dL_law_1076 : decode cL_law 1076 = .ok (.iaload, 1) := by decide +kernel
theorem dL_law_1077 : decode cL_law 1077 = .ok (.invokevirtual 195, 3) := by decide +kernel
theorem dL_law_1080 : decode cL_law 1080 = .ok (.istore 6, 2) := by decide +kernel
theorem dL_law_1082 : decode cL_law 1082 = .ok (.aload_n 2, 1) := by decide +kernel
theorem dL_law_1083 : decode cL_law 1083 = .ok (.invokevirtual 139, 3) := by decide +kernel
theorem dL_law_1086 : decode cL_law 1086 = .ok (.iload 5, 2) := by decide +kernel
theorem dL_law_1088 : decode cL_law 1088 = .ok (.if_icmp .eq 5, 3) := by decide +kernel
theorem dL_law_1091 : decode cL_law 1091 = .ok (.iconst 0, 1) := by decide +kernel
theorem dL_law_1092 : decode cL_law 1092 = .ok (.ireturn, 1) := by decide +kernel
theorem dL_law_1093 : decode cL_law 1093 = .ok (.iload 5, 2) := by decide +kernel
theorem dL_law_1095 : decode cL_law 1095 = .ok (.ifCond .ne 15, 3) := by decide +kernel
theorem dL_law_1098 : decode cL_law 1098 = .ok (.aload_n 3, 1) := by decide +kernel
theorem dL_law_1099 : decode cL_law 1099 = .ok (.iconst 0, 1) := by decide +kernel
theorem dL_law_1100 : decode cL_law 1100 = .ok (.laload, 1) := by decide +kernel
theorem dL_law_1101 : decode cL_law 1101 = .ok (.iload 6, 2) := by decide +kernel
theorem dL_law_1103 : decode cL_law 1103 = .ok (.i2l, 1) := by decide +kernel
theorem dL_law_1104 : decode cL_law 1104 = .ok (.lcmp, 1) := by decide +kernel
theorem dL_law_1105 : decode cL_law 1105 = .ok (.ifCond .eq 5, 3) := by decide +kernel
theorem dL_law_1108 : decode cL_law 1108 = .ok (.iconst 0, 1) := by decide +kernel
theorem dL_law_1109 : decode cL_law 1109 = .ok (.ireturn, 1) := by decide +kernel
theorem dL_law_1110 : decode cL_law 1110 = .ok (.goto 1556, 3) := by decide +kernel
theorem dL_law_1113 : decode cL_law 1113 = .ok (.aload_n 1, 1) := by decide +kernel
theorem dL_law_1114 : decode cL_law 1114 = .ok (.aload_n 0, 1) := by decide +kernel
theorem dL_law_1115 : decode cL_law 1115 = .ok (.iload 4, 2) := by decide +kernel
theorem dL_law_1117 : decode cL_law 1117 = .ok (.iconst 1, 1) := by decide +kernel
theorem dL_law_1118 : decode cL_law 1118 = .ok (.iadd, 1) := by decide +kernel
theorem dL_law_1119 : decode cL_law 1119 = .ok (.iaload, 1) := by decide +kernel
theorem dL_law_1120 : decode cL_law 1120 = .ok (.aload_n 0, 1) := by decide +kernel
theorem dL_law_1121 : decode cL_law 1121 = .ok (.iload 4, 2) := by decide +kernel
theorem dL_law_1123 : decode cL_law 1123 = .ok (.iconst 2, 1) := by decide +kernel
theorem dL_law_1124 : decode cL_law 1124 = .ok (.iadd, 1) := by decide +kernel
theorem dL_law_1125 : decode cL_law 1125 = .ok (.iaload, 1) := by decide +kernel
theorem dL_law_1126 : decode cL_law 1126 = .ok (.aload_n 3, 1) := by decide +kernel
theorem dL_law_1127 : decode cL_law 1127 = .ok (.invokestatic 196, 3) := by decide +kernel
theorem dL_law_1130 : decode cL_law 1130 = .ok (.istore 5, 2) := by decide +kernel
theorem dL_law_1132 : decode cL_law 1132 = .ok (.aload_n 2, 1) := by decide +kernel
theorem dL_law_1133 : decode cL_law 1133 = .ok (.aload_n 0, 1) := by decide +kernel
theorem dL_law_1134 : decode cL_law 1134 = .ok (.iload 4, 2) := by decide +kernel
theorem dL_law_1136 : decode cL_law 1136 = .ok (.iconst 1, 1) := by decide +kernel
theorem dL_law_1137 : decode cL_law 1137 = .ok (.iadd, 1) := by decide +kernel
theorem dL_law_1138 : decode cL_law 1138 = .ok (.iaload, 1) := by decide +kernel
theorem dL_law_1139 : decode cL_law 1139 = .ok (.aload_n 0, 1) := by decide +kernel
theorem dL_law_1140 : decode cL_law 1140 = .ok (.iload 4, 2) := by decide +kernel
theorem dL_law_1142 : decode cL_law 1142 = .ok (.iconst 2, 1) := by decide +kernel
theorem dL_law_1143 : decode cL_law 1143 = .ok (.iadd, 1) := by decide +kernel
theorem dL_law_1144 : decode cL_law 1144 = .ok (.iaload, 1) := by decide +kernel
theorem dL_law_1145 : decode cL_law 1145 = .ok (.invokevirtual 198, 3) := by decide +kernel
theorem dL_law_1148 : decode cL_law 1148 = .ok (.istore 6, 2) := by decide +kernel
theorem dL_law_1150 : decode cL_law 1150 = .ok (.aload_n 2, 1) := by decide +kernel
theorem dL_law_1151 : decode cL_law 1151 = .ok (.invokevirtual 139, 3) := by decide +kernel
theorem dL_law_1154 : decode cL_law 1154 = .ok (.iload 5, 2) := by decide +kernel
theorem dL_law_1156 : decode cL_law 1156 = .ok (.if_icmp .eq 5, 3) := by decide +kernel
theorem dL_law_1159 : decode cL_law 1159 = .ok (.iconst 0, 1) := by decide +kernel
theorem dL_law_1160 : decode cL_law 1160 = .ok (.ireturn, 1) := by decide +kernel
theorem dL_law_1161 : decode cL_law 1161 = .ok (.iload 5, 2) := by decide +kernel
theorem dL_law_1163 : decode cL_law 1163 = .ok (.ifCond .ne 15, 3) := by decide +kernel
theorem dL_law_1166 : decode cL_law 1166 = .ok (.aload_n 3, 1) := by decide +kernel
theorem dL_law_1167 : decode cL_law 1167 = .ok (.iconst 0, 1) := by decide +kernel
theorem dL_law_1168 : decode cL_law 1168 = .ok (.laload, 1) := by decide +kernel
theorem dL_law_1169 : decode cL_law 1169 = .ok (.iload 6, 2) := by decide +kernel
theorem dL_law_1171 : decode cL_law 1171 = .ok (.i2l, 1) := by decide +kernel
theorem dL_law_1172 : decode cL_law 1172 = .ok (.lcmp, 1) := by decide +kernel
theorem dL_law_1173 : decode cL_law 1173 = .ok (.ifCond .eq 5, 3) := by decide +kernel
theorem dL_law_1176 : decode cL_law 1176 = .ok (.iconst 0, 1) := by decide +kernel
theorem dL_law_1177 : decode cL_law 1177 = .ok (.ireturn, 1) := by decide +kernel
theorem dL_law_1178 : decode cL_law 1178 = .ok (.goto 1488, 3) := by decide +kernel
theorem dL_law_1181 : decode cL_law 1181 = .ok (.aload_n 1, 1) := by decide +kernel
theorem dL_law_1182 : decode cL_law 1182 = .ok (.aload_n 0, 1) := by decide +kernel
theorem dL_law_1183 : decode cL_law 1183 = .ok (.iload 4, 2) := by decide +kernel
theorem dL_law_1185 : decode cL_law 1185 = .ok (.iconst 1, 1) := by decide +kernel
theorem dL_law_1186 : decode cL_law 1186 = .ok (.iadd, 1) := by decide +kernel
theorem dL_law_1187 : decode cL_law 1187 = .ok (.iaload, 1) := by decide +kernel
theorem dL_law_1188 : decode cL_law 1188 = .ok (.aload_n 3, 1) := by decide +kernel
theorem dL_law_1189 : decode cL_law 1189 = .ok (.invokestatic 199, 3) := by decide +kernel
theorem dL_law_1192 : decode cL_law 1192 = .ok (.istore 5, 2) := by decide +kernel
theorem dL_law_1194 : decode cL_law 1194 = .ok (.aload_n 2, 1) := by decide +kernel
theorem dL_law_1195 : decode cL_law 1195 = .ok (.aload_n 0, 1) := by decide +kernel
theorem dL_law_1196 : decode cL_law 1196 = .ok (.iload 4, 2) := by decide +kernel
theorem dL_law_1198 : decode cL_law 1198 = .ok (.iconst 1, 1) := by decide +kernel
theorem dL_law_1199 : decode cL_law 1199 = .ok (.iadd, 1) := by decide +kernel
theorem dL_law_1200 : decode cL_law 1200 = .ok (.iaload, 1) := by decide +kernel
theorem dL_law_1201 : decode cL_law 1201 = .ok (.invokevirtual 201, 3) := by decide +kernel
theorem dL_law_1204 : decode cL_law 1204 = .ok (.istore 6, 2) := by decide +kernel
theorem dL_law_1206 : decode cL_law 1206 = .ok (.aload_n 2, 1) := by decide +kernel
theorem dL_law_1207 : decode cL_law 1207 = .ok (.invokevirtual 139, 3) := by decide +kernel
theorem dL_law_1210 : decode cL_law 1210 = .ok (.iload 5, 2) := by decide +kernel
theorem dL_law_1212 : decode cL_law 1212 = .ok (.if_icmp .eq 5, 3) := by decide +kernel
theorem dL_law_1215 : decode cL_law 1215 = .ok (.iconst 0, 1) := by decide +kernel
theorem dL_law_1216 : decode cL_law 1216 = .ok (.ireturn, 1) := by decide +kernel
theorem dL_law_1217 : decode cL_law 1217 = .ok (.iload 5, 2) := by decide +kernel
theorem dL_law_1219 : decode cL_law 1219 = .ok (.ifCond .ne 15, 3) := by decide +kernel
theorem dL_law_1222 : decode cL_law 1222 = .ok (.aload_n 3, 1) := by decide +kernel
theorem dL_law_1223 : decode cL_law 1223 = .ok (.iconst 0, 1) := by decide +kernel
theorem dL_law_1224 : decode cL_law 1224 = .ok (.laload, 1) := by decide +kernel
theorem dL_law_1225 : decode cL_law 1225 = .ok (.iload 6, 2) := by decide +kernel
theorem dL_law_1227 : decode cL_law 1227 = .ok (.i2l, 1) := by decide +kernel
theorem dL_law_1228 : decode cL_law 1228 = .ok (.lcmp, 1) := by decide +kernel
theorem dL_law_1229 : decode cL_law 1229 = .ok (.ifCond .eq 5, 3) := by decide +kernel
theorem dL_law_1232 : decode cL_law 1232 = .ok (.iconst 0, 1) := by decide +kernel
theorem dL_law_1233 : decode cL_law 1233 = .ok (.ireturn, 1) := by decide +kernel
theorem dL_law_1234 : decode cL_law 1234 = .ok (.goto 1432, 3) := by decide +kernel
theorem dL_law_1237 : decode cL_law 1237 = .ok (.aload_n 1, 1) := by decide +kernel
theorem dL_law_1238 : decode cL_law 1238 = .ok (.aload_n 0, 1) := by decide +kernel
theorem dL_law_1239 : decode cL_law 1239 = .ok (.iload 4, 2) := by decide +kernel
theorem dL_law_1241 : decode cL_law 1241 = .ok (.iconst 1, 1) := by decide +kernel
theorem dL_law_1242 : decode cL_law 1242 = .ok (.iadd, 1) := by decide +kernel
theorem dL_law_1243 : decode cL_law 1243 = .ok (.iaload, 1) := by decide +kernel
theorem dL_law_1244 : decode cL_law 1244 = .ok (.aload_n 3, 1) := by decide +kernel
theorem dL_law_1245 : decode cL_law 1245 = .ok (.invokestatic 202, 3) := by decide +kernel
theorem dL_law_1248 : decode cL_law 1248 = .ok (.istore 5, 2) := by decide +kernel
theorem dL_law_1250 : decode cL_law 1250 = .ok (.aload_n 2, 1) := by decide +kernel
theorem dL_law_1251 : decode cL_law 1251 = .ok (.aload_n 0, 1) := by decide +kernel
theorem dL_law_1252 : decode cL_law 1252 = .ok (.iload 4, 2) := by decide +kernel
theorem dL_law_1254 : decode cL_law 1254 = .ok (.iconst 1, 1) := by decide +kernel
theorem dL_law_1255 : decode cL_law 1255 = .ok (.iadd, 1) := by decide +kernel
theorem dL_law_1256 : decode cL_law 1256 = .ok (.iaload, 1) := by decide +kernel
theorem dL_law_1257 : decode cL_law 1257 = .ok (.invokevirtual 204, 3) := by decide +kernel
theorem dL_law_1260 : decode cL_law 1260 = .ok (.istore 6, 2) := by decide +kernel
theorem dL_law_1262 : decode cL_law 1262 = .ok (.aload_n 2, 1) := by decide +kernel
theorem dL_law_1263 : decode cL_law 1263 = .ok (.invokevirtual 139, 3) := by decide +kernel
theorem dL_law_1266 : decode cL_law 1266 = .ok (.iload 5, 2) := by decide +kernel
theorem dL_law_1268 : decode cL_law 1268 = .ok (.if_icmp .eq 5, 3) := by decide +kernel
theorem dL_law_1271 : decode cL_law 1271 = .ok (.iconst 0, 1) := by decide +kernel
theorem dL_law_1272 : decode cL_law 1272 = .ok (.ireturn, 1) := by decide +kernel
theorem dL_law_1273 : decode cL_law 1273 = .ok (.iload 5, 2) := by decide +kernel
theorem dL_law_1275 : decode cL_law 1275 = .ok (.ifCond .ne 15, 3) := by decide +kernel
theorem dL_law_1278 : decode cL_law 1278 = .ok (.aload_n 3, 1) := by decide +kernel
theorem dL_law_1279 : decode cL_law 1279 = .ok (.iconst 0, 1) := by decide +kernel
theorem dL_law_1280 : decode cL_law 1280 = .ok (.laload, 1) := by decide +kernel
theorem dL_law_1281 : decode cL_law 1281 = .ok (.iload 6, 2) := by decide +kernel
theorem dL_law_1283 : decode cL_law 1283 = .ok (.i2l, 1) := by decide +kernel
theorem dL_law_1284 : decode cL_law 1284 = .ok (.lcmp, 1) := by decide +kernel
theorem dL_law_1285 : decode cL_law 1285 = .ok (.ifCond .eq 5, 3) := by decide +kernel
theorem dL_law_1288 : decode cL_law 1288 = .ok (.iconst 0, 1) := by decide +kernel
theorem dL_law_1289 : decode cL_law 1289 = .ok (.ireturn, 1) := by decide +kernel
theorem dL_law_1290 : decode cL_law 1290 = .ok (.goto 1376, 3) := by decide +kernel
theorem dL_law_1293 : decode cL_law 1293 = .ok (.aload_n 1, 1) := by decide +kernel
theorem dL_law_1294 : decode cL_law 1294 = .ok (.aload_n 0, 1) := by decide +kernel
theorem dL_law_1295 : decode cL_law 1295 = .ok (.iload 4, 2) := by decide +kernel
theorem dL_law_1297 : decode cL_law 1297 = .ok (.iconst 1, 1) := by decide +kernel
theorem dL_law_1298 : decode cL_law 1298 = .ok (.iadd, 1) := by decide +kernel
theorem dL_law_1299 : decode cL_law 1299 = .ok (.iaload, 1) := by decide +kernel
theorem dL_law_1300 : decode cL_law 1300 = .ok (.aload_n 0, 1) := by decide +kernel
theorem dL_law_1301 : decode cL_law 1301 = .ok (.iload 4, 2) := by decide +kernel
theorem dL_law_1303 : decode cL_law 1303 = .ok (.iconst 2, 1) := by decide +kernel
theorem dL_law_1304 : decode cL_law 1304 = .ok (.iadd, 1) := by decide +kernel
theorem dL_law_1305 : decode cL_law 1305 = .ok (.iaload, 1) := by decide +kernel
theorem dL_law_1306 : decode cL_law 1306 = .ok (.aload_n 3, 1) := by decide +kernel
theorem dL_law_1307 : decode cL_law 1307 = .ok (.invokestatic 205, 3) := by decide +kernel
theorem dL_law_1310 : decode cL_law 1310 = .ok (.istore 5, 2) := by decide +kernel
theorem dL_law_1312 : decode cL_law 1312 = .ok (.aload_n 2, 1) := by decide +kernel
theorem dL_law_1313 : decode cL_law 1313 = .ok (.aload_n 0, 1) := by decide +kernel
theorem dL_law_1314 : decode cL_law 1314 = .ok (.iload 4, 2) := by decide +kernel
theorem dL_law_1316 : decode cL_law 1316 = .ok (.iconst 1, 1) := by decide +kernel
theorem dL_law_1317 : decode cL_law 1317 = .ok (.iadd, 1) := by decide +kernel
theorem dL_law_1318 : decode cL_law 1318 = .ok (.iaload, 1) := by decide +kernel
theorem dL_law_1319 : decode cL_law 1319 = .ok (.aload_n 0, 1) := by decide +kernel
theorem dL_law_1320 : decode cL_law 1320 = .ok (.iload 4, 2) := by decide +kernel
theorem dL_law_1322 : decode cL_law 1322 = .ok (.iconst 2, 1) := by decide +kernel
theorem dL_law_1323 : decode cL_law 1323 = .ok (.iadd, 1) := by decide +kernel
theorem dL_law_1324 : decode cL_law 1324 = .ok (.iaload, 1) := by decide +kernel
theorem dL_law_1325 : decode cL_law 1325 = .ok (.invokevirtual 207, 3) := by decide +kernel
theorem dL_law_1328 : decode cL_law 1328 = .ok (.istore 6, 2) := by decide +kernel
theorem dL_law_1330 : decode cL_law 1330 = .ok (.aload_n 2, 1) := by decide +kernel
theorem dL_law_1331 : decode cL_law 1331 = .ok (.invokevirtual 139, 3) := by decide +kernel
theorem dL_law_1334 : decode cL_law 1334 = .ok (.iload 5, 2) := by decide +kernel
theorem dL_law_1336 : decode cL_law 1336 = .ok (.if_icmp .eq 5, 3) := by decide +kernel
theorem dL_law_1339 : decode cL_law 1339 = .ok (.iconst 0, 1) := by decide +kernel
theorem dL_law_1340 : decode cL_law 1340 = .ok (.ireturn, 1) := by decide +kernel
theorem dL_law_1341 : decode cL_law 1341 = .ok (.iload 5, 2) := by decide +kernel
theorem dL_law_1343 : decode cL_law 1343 = .ok (.ifCond .ne 15, 3) := by decide +kernel
theorem dL_law_1346 : decode cL_law 1346 = .ok (.aload_n 3, 1) := by decide +kernel
theorem dL_law_1347 : decode cL_law 1347 = .ok (.iconst 0, 1) := by decide +kernel
theorem dL_law_1348 : decode cL_law 1348 = .ok (.laload, 1) := by decide +kernel
theorem dL_law_1349 : decode cL_law 1349 = .ok (.iload 6, 2) := by decide +kernel
theorem dL_law_1351 : decode cL_law 1351 = .ok (.i2l, 1) := by decide +kernel
theorem dL_law_1352 : decode cL_law 1352 = .ok (.lcmp, 1) := by decide +kernel
theorem dL_law_1353 : decode cL_law 1353 = .ok (.ifCond .eq 5, 3) := by decide +kernel
theorem dL_law_1356 : decode cL_law 1356 = .ok (.iconst 0, 1) := by decide +kernel
theorem dL_law_1357 : decode cL_law 1357 = .ok (.ireturn, 1) := by decide +kernel
theorem dL_law_1358 : decode cL_law 1358 = .ok (.goto 1308, 3) := by decide +kernel
theorem dL_law_1361 : decode cL_law 1361 = .ok (.aload_n 1, 1) := by decide +kernel
theorem dL_law_1362 : decode cL_law 1362 = .ok (.invokevirtual 208, 3) := by decide +kernel
theorem dL_law_1365 : decode cL_law 1365 = .ok (.aload_n 2, 1) := by decide +kernel
theorem dL_law_1366 : decode cL_law 1366 = .ok (.invokevirtual 211, 3) := by decide +kernel
theorem dL_law_1369 : decode cL_law 1369 = .ok (.if_icmp .eq 1297, 3) := by decide +kernel
theorem dL_law_1372 : decode cL_law 1372 = .ok (.iconst 0, 1) := by decide +kernel
theorem dL_law_1373 : decode cL_law 1373 = .ok (.ireturn, 1) := by decide +kernel
theorem dL_law_1374 : decode cL_law 1374 = .ok (.aload_n 1, 1) := by decide +kernel
theorem dL_law_1375 : decode cL_law 1375 = .ok (.aload_n 0, 1) := by decide +kernel
theorem dL_law_1376 : decode cL_law 1376 = .ok (.iload 4, 2) := by decide +kernel
theorem dL_law_1378 : decode cL_law 1378 = .ok (.iconst 1, 1) := by decide +kernel
theorem dL_law_1379 : decode cL_law 1379 = .ok (.iadd, 1) := by decide +kernel
theorem dL_law_1380 : decode cL_law 1380 = .ok (.iaload, 1) := by decide +kernel
theorem dL_law_1381 : decode cL_law 1381 = .ok (.aload_n 3, 1) := by decide +kernel
theorem dL_law_1382 : decode cL_law 1382 = .ok (.invokestatic 212, 3) := by decide +kernel
theorem dL_law_1385 : decode cL_law 1385 = .ok (.istore 5, 2) := by decide +kernel
theorem dL_law_1387 : decode cL_law 1387 = .ok (.aload_n 2, 1) := by decide +kernel
theorem dL_law_1388 : decode cL_law 1388 = .ok (.aload_n 0, 1) := by decide +kernel
theorem dL_law_1389 : decode cL_law 1389 = .ok (.iload 4, 2) := by decide +kernel
theorem dL_law_1391 : decode cL_law 1391 = .ok (.iconst 1, 1) := by decide +kernel
theorem dL_law_1392 : decode cL_law 1392 = .ok (.iadd, 1) := by decide +kernel
theorem dL_law_1393 : decode cL_law 1393 = .ok (.iaload, 1) := by decide +kernel
theorem dL_law_1394 : decode cL_law 1394 = .ok (.invokevirtual 214, 3) := by decide +kernel
theorem dL_law_1397 : decode cL_law 1397 = .ok (.istore 6, 2) := by decide +kernel
theorem dL_law_1399 : decode cL_law 1399 = .ok (.aload_n 2, 1) := by decide +kernel
theorem dL_law_1400 : decode cL_law 1400 = .ok (.invokevirtual 139, 3) := by decide +kernel
theorem dL_law_1403 : decode cL_law 1403 = .ok (.iload 5, 2) := by decide +kernel
theorem dL_law_1405 : decode cL_law 1405 = .ok (.if_icmp .eq 5, 3) := by decide +kernel
theorem dL_law_1408 : decode cL_law 1408 = .ok (.iconst 0, 1) := by decide +kernel
theorem dL_law_1409 : decode cL_law 1409 = .ok (.ireturn, 1) := by decide +kernel
theorem dL_law_1410 : decode cL_law 1410 = .ok (.iload 5, 2) := by decide +kernel
theorem dL_law_1412 : decode cL_law 1412 = .ok (.ifCond .ne 15, 3) := by decide +kernel
theorem dL_law_1415 : decode cL_law 1415 = .ok (.aload_n 3, 1) := by decide +kernel
theorem dL_law_1416 : decode cL_law 1416 = .ok (.iconst 0, 1) := by decide +kernel
theorem dL_law_1417 : decode cL_law 1417 = .ok (.laload, 1) := by decide +kernel
theorem dL_law_1418 : decode cL_law 1418 = .ok (.iload 6, 2) := by decide +kernel
theorem dL_law_1420 : decode cL_law 1420 = .ok (.i2l, 1) := by decide +kernel
theorem dL_law_1421 : decode cL_law 1421 = .ok (.lcmp, 1) := by decide +kernel
theorem dL_law_1422 : decode cL_law 1422 = .ok (.ifCond .eq 5, 3) := by decide +kernel
theorem dL_law_1425 : decode cL_law 1425 = .ok (.iconst 0, 1) := by decide +kernel
theorem dL_law_1426 : decode cL_law 1426 = .ok (.ireturn, 1) := by decide +kernel
theorem dL_law_1427 : decode cL_law 1427 = .ok (.goto 1239, 3) := by decide +kernel
theorem dL_law_1430 : decode cL_law 1430 = .ok (.aload_n 1, 1) := by decide +kernel
theorem dL_law_1431 : decode cL_law 1431 = .ok (.invokevirtual 215, 3) := by decide +kernel
theorem dL_law_1434 : decode cL_law 1434 = .ok (.aload_n 2, 1) := by decide +kernel
theorem dL_law_1435 : decode cL_law 1435 = .ok (.invokevirtual 218, 3) := by decide +kernel
theorem dL_law_1438 : decode cL_law 1438 = .ok (.if_icmp .eq 1228, 3) := by decide +kernel
theorem dL_law_1441 : decode cL_law 1441 = .ok (.iconst 0, 1) := by decide +kernel
theorem dL_law_1442 : decode cL_law 1442 = .ok (.ireturn, 1) := by decide +kernel
theorem dL_law_1443 : decode cL_law 1443 = .ok (.aload_n 1, 1) := by decide +kernel
theorem dL_law_1444 : decode cL_law 1444 = .ok (.aload_n 0, 1) := by decide +kernel
theorem dL_law_1445 : decode cL_law 1445 = .ok (.iload 4, 2) := by decide +kernel
theorem dL_law_1447 : decode cL_law 1447 = .ok (.iconst 1, 1) := by decide +kernel
theorem dL_law_1448 : decode cL_law 1448 = .ok (.iadd, 1) := by decide +kernel
theorem dL_law_1449 : decode cL_law 1449 = .ok (.iaload, 1) := by decide +kernel
theorem dL_law_1450 : decode cL_law 1450 = .ok (.aload_n 3, 1) := by decide +kernel
theorem dL_law_1451 : decode cL_law 1451 = .ok (.invokestatic 219, 3) := by decide +kernel
theorem dL_law_1454 : decode cL_law 1454 = .ok (.istore 5, 2) := by decide +kernel
theorem dL_law_1456 : decode cL_law 1456 = .ok (.aload_n 2, 1) := by decide +kernel
theorem dL_law_1457 : decode cL_law 1457 = .ok (.aload_n 0, 1) := by decide +kernel
theorem dL_law_1458 : decode cL_law 1458 = .ok (.iload 4, 2) := by decide +kernel
theorem dL_law_1460 : decode cL_law 1460 = .ok (.iconst 1, 1) := by decide +kernel
theorem dL_law_1461 : decode cL_law 1461 = .ok (.iadd, 1) := by decide +kernel
theorem dL_law_1462 : decode cL_law 1462 = .ok (.iaload, 1) := by decide +kernel
theorem dL_law_1463 : decode cL_law 1463 = .ok (.invokevirtual 221, 3) := by decide +kernel
theorem dL_law_1466 : decode cL_law 1466 = .ok (.istore 6, 2) := by decide +kernel
theorem dL_law_1468 : decode cL_law 1468 = .ok (.aload_n 2, 1) := by decide +kernel
theorem dL_law_1469 : decode cL_law 1469 = .ok (.invokevirtual 139, 3) := by decide +kernel
theorem dL_law_1472 : decode cL_law 1472 = .ok (.iload 5, 2) := by decide +kernel
theorem dL_law_1474 : decode cL_law 1474 = .ok (.if_icmp .eq 5, 3) := by decide +kernel
theorem dL_law_1477 : decode cL_law 1477 = .ok (.iconst 0, 1) := by decide +kernel
theorem dL_law_1478 : decode cL_law 1478 = .ok (.ireturn, 1) := by decide +kernel
theorem dL_law_1479 : decode cL_law 1479 = .ok (.iload 5, 2) := by decide +kernel
theorem dL_law_1481 : decode cL_law 1481 = .ok (.ifCond .ne 15, 3) := by decide +kernel
theorem dL_law_1484 : decode cL_law 1484 = .ok (.aload_n 3, 1) := by decide +kernel
theorem dL_law_1485 : decode cL_law 1485 = .ok (.iconst 0, 1) := by decide +kernel
theorem dL_law_1486 : decode cL_law 1486 = .ok (.laload, 1) := by decide +kernel
theorem dL_law_1487 : decode cL_law 1487 = .ok (.iload 6, 2) := by decide +kernel
theorem dL_law_1489 : decode cL_law 1489 = .ok (.i2l, 1) := by decide +kernel
theorem dL_law_1490 : decode cL_law 1490 = .ok (.lcmp, 1) := by decide +kernel
theorem dL_law_1491 : decode cL_law 1491 = .ok (.ifCond .eq 5, 3) := by decide +kernel
theorem dL_law_1494 : decode cL_law 1494 = .ok (.iconst 0, 1) := by decide +kernel
theorem dL_law_1495 : decode cL_law 1495 = .ok (.ireturn, 1) := by decide +kernel
theorem dL_law_1496 : decode cL_law 1496 = .ok (.goto 1170, 3) := by decide +kernel
theorem dL_law_1499 : decode cL_law 1499 = .ok (.aload_n 1, 1) := by decide +kernel
theorem dL_law_1500 : decode cL_law 1500 = .ok (.aload_n 0, 1) := by decide +kernel
theorem dL_law_1501 : decode cL_law 1501 = .ok (.iload 4, 2) := by decide +kernel
theorem dL_law_1503 : decode cL_law 1503 = .ok (.iconst 1, 1) := by decide +kernel
theorem dL_law_1504 : decode cL_law 1504 = .ok (.iadd, 1) := by decide +kernel
theorem dL_law_1505 : decode cL_law 1505 = .ok (.iaload, 1) := by decide +kernel
theorem dL_law_1506 : decode cL_law 1506 = .ok (.aload_n 0, 1) := by decide +kernel
theorem dL_law_1507 : decode cL_law 1507 = .ok (.iload 4, 2) := by decide +kernel
theorem dL_law_1509 : decode cL_law 1509 = .ok (.iconst 2, 1) := by decide +kernel
theorem dL_law_1510 : decode cL_law 1510 = .ok (.iadd, 1) := by decide +kernel
theorem dL_law_1511 : decode cL_law 1511 = .ok (.iaload, 1) := by decide +kernel
theorem dL_law_1512 : decode cL_law 1512 = .ok (.aload_n 3, 1) := by decide +kernel
theorem dL_law_1513 : decode cL_law 1513 = .ok (.invokestatic 222, 3) := by decide +kernel
theorem dL_law_1516 : decode cL_law 1516 = .ok (.istore 5, 2) := by decide +kernel
theorem dL_law_1518 : decode cL_law 1518 = .ok (.aload_n 2, 1) := by decide +kernel
theorem dL_law_1519 : decode cL_law 1519 = .ok (.aload_n 0, 1) := by decide +kernel
theorem dL_law_1520 : decode cL_law 1520 = .ok (.iload 4, 2) := by decide +kernel
theorem dL_law_1522 : decode cL_law 1522 = .ok (.iconst 1, 1) := by decide +kernel
theorem dL_law_1523 : decode cL_law 1523 = .ok (.iadd, 1) := by decide +kernel
theorem dL_law_1524 : decode cL_law 1524 = .ok (.iaload, 1) := by decide +kernel
theorem dL_law_1525 : decode cL_law 1525 = .ok (.aload_n 0, 1) := by decide +kernel
theorem dL_law_1526 : decode cL_law 1526 = .ok (.iload 4, 2) := by decide +kernel
theorem dL_law_1528 : decode cL_law 1528 = .ok (.iconst 2, 1) := by decide +kernel
theorem dL_law_1529 : decode cL_law 1529 = .ok (.iadd, 1) := by decide +kernel
theorem dL_law_1530 : decode cL_law 1530 = .ok (.iaload, 1) := by decide +kernel
theorem dL_law_1531 : decode cL_law 1531 = .ok (.invokevirtual 224, 3) := by decide +kernel
theorem dL_law_1534 : decode cL_law 1534 = .ok (.istore 6, 2) := by decide +kernel
theorem dL_law_1536 : decode cL_law 1536 = .ok (.aload_n 2, 1) := by decide +kernel
theorem dL_law_1537 : decode cL_law 1537 = .ok (.invokevirtual 139, 3) := by decide +kernel
theorem dL_law_1540 : decode cL_law 1540 = .ok (.iload 5, 2) := by decide +kernel
theorem dL_law_1542 : decode cL_law 1542 = .ok (.if_icmp .eq 5, 3) := by decide +kernel
theorem dL_law_1545 : decode cL_law 1545 = .ok (.iconst 0, 1) := by decide +kernel
theorem dL_law_1546 : decode cL_law 1546 = .ok (.ireturn, 1) := by decide +kernel
theorem dL_law_1547 : decode cL_law 1547 = .ok (.iload 5, 2) := by decide +kernel
theorem dL_law_1549 : decode cL_law 1549 = .ok (.ifCond .ne 15, 3) := by decide +kernel
theorem dL_law_1552 : decode cL_law 1552 = .ok (.aload_n 3, 1) := by decide +kernel
theorem dL_law_1553 : decode cL_law 1553 = .ok (.iconst 0, 1) := by decide +kernel
theorem dL_law_1554 : decode cL_law 1554 = .ok (.laload, 1) := by decide +kernel
theorem dL_law_1555 : decode cL_law 1555 = .ok (.iload 6, 2) := by decide +kernel
theorem dL_law_1557 : decode cL_law 1557 = .ok (.i2l, 1) := by decide +kernel
theorem dL_law_1558 : decode cL_law 1558 = .ok (.lcmp, 1) := by decide +kernel
theorem dL_law_1559 : decode cL_law 1559 = .ok (.ifCond .eq 5, 3) := by decide +kernel
theorem dL_law_1562 : decode cL_law 1562 = .ok (.iconst 0, 1) := by decide +kernel
theorem dL_law_1563 : decode cL_law 1563 = .ok (.ireturn, 1) := by decide +kernel
theorem dL_law_1564 : decode cL_law 1564 = .ok (.goto 1102, 3) := by decide +kernel
theorem dL_law_1567 : decode cL_law 1567 = .ok (.aload_n 1, 1) := by decide +kernel
theorem dL_law_1568 : decode cL_law 1568 = .ok (.aload_n 0, 1) := by decide +kernel
theorem dL_law_1569 : decode cL_law 1569 = .ok (.iload 4, 2) := by decide +kernel
theorem dL_law_1571 : decode cL_law 1571 = .ok (.iconst 1, 1) := by decide +kernel
theorem dL_law_1572 : decode cL_law 1572 = .ok (.iadd, 1) := by decide +kernel
theorem dL_law_1573 : decode cL_law 1573 = .ok (.iaload, 1) := by decide +kernel
theorem dL_law_1574 : decode cL_law 1574 = .ok (.aload_n 0, 1) := by decide +kernel
theorem dL_law_1575 : decode cL_law 1575 = .ok (.iload 4, 2) := by decide +kernel
theorem dL_law_1577 : decode cL_law 1577 = .ok (.iconst 2, 1) := by decide +kernel
theorem dL_law_1578 : decode cL_law 1578 = .ok (.iadd, 1) := by decide +kernel
theorem dL_law_1579 : decode cL_law 1579 = .ok (.iaload, 1) := by decide +kernel
theorem dL_law_1580 : decode cL_law 1580 = .ok (.aload_n 3, 1) := by decide +kernel
theorem dL_law_1581 : decode cL_law 1581 = .ok (.invokestatic 225, 3) := by decide +kernel
theorem dL_law_1584 : decode cL_law 1584 = .ok (.istore 5, 2) := by decide +kernel
theorem dL_law_1586 : decode cL_law 1586 = .ok (.aload_n 2, 1) := by decide +kernel
theorem dL_law_1587 : decode cL_law 1587 = .ok (.aload_n 0, 1) := by decide +kernel
theorem dL_law_1588 : decode cL_law 1588 = .ok (.iload 4, 2) := by decide +kernel
theorem dL_law_1590 : decode cL_law 1590 = .ok (.iconst 1, 1) := by decide +kernel
theorem dL_law_1591 : decode cL_law 1591 = .ok (.iadd, 1) := by decide +kernel
theorem dL_law_1592 : decode cL_law 1592 = .ok (.iaload, 1) := by decide +kernel
theorem dL_law_1593 : decode cL_law 1593 = .ok (.aload_n 0, 1) := by decide +kernel
theorem dL_law_1594 : decode cL_law 1594 = .ok (.iload 4, 2) := by decide +kernel
theorem dL_law_1596 : decode cL_law 1596 = .ok (.iconst 2, 1) := by decide +kernel
theorem dL_law_1597 : decode cL_law 1597 = .ok (.iadd, 1) := by decide +kernel
theorem dL_law_1598 : decode cL_law 1598 = .ok (.iaload, 1) := by decide +kernel
theorem dL_law_1599 : decode cL_law 1599 = .ok (.invokevirtual 227, 3) := by decide +kernel
theorem dL_law_1602 : decode cL_law 1602 = .ok (.istore 6, 2) := by decide +kernel
theorem dL_law_1604 : decode cL_law 1604 = .ok (.aload_n 2, 1) := by decide +kernel
theorem dL_law_1605 : decode cL_law 1605 = .ok (.invokevirtual 139, 3) := by decide +kernel
theorem dL_law_1608 : decode cL_law 1608 = .ok (.iload 5, 2) := by decide +kernel
theorem dL_law_1610 : decode cL_law 1610 = .ok (.if_icmp .eq 5, 3) := by decide +kernel
theorem dL_law_1613 : decode cL_law 1613 = .ok (.iconst 0, 1) := by decide +kernel
theorem dL_law_1614 : decode cL_law 1614 = .ok (.ireturn, 1) := by decide +kernel
theorem dL_law_1615 : decode cL_law 1615 = .ok (.iload 5, 2) := by decide +kernel
theorem dL_law_1617 : decode cL_law 1617 = .ok (.ifCond .ne 15, 3) := by decide +kernel
theorem dL_law_1620 : decode cL_law 1620 = .ok (.aload_n 3, 1) := by decide +kernel
theorem dL_law_1621 : decode cL_law 1621 = .ok (.iconst 0, 1) := by decide +kernel
theorem dL_law_1622 : decode cL_law 1622 = .ok (.laload, 1) := by decide +kernel
theorem dL_law_1623 : decode cL_law 1623 = .ok (.iload 6, 2) := by decide +kernel
theorem dL_law_1625 : decode cL_law 1625 = .ok (.i2l, 1) := by decide +kernel
theorem dL_law_1626 : decode cL_law 1626 = .ok (.lcmp, 1) := by decide +kernel
theorem dL_law_1627 : decode cL_law 1627 = .ok (.ifCond .eq 5, 3) := by decide +kernel
theorem dL_law_1630 : decode cL_law 1630 = .ok (.iconst 0, 1) := by decide +kernel
theorem dL_law_1631 : decode cL_law 1631 = .ok (.ireturn, 1) := by decide +kernel
theorem dL_law_1632 : decode cL_law 1632 = .ok (.goto 1034, 3) := by decide +kernel
theorem dL_law_1635 : decode cL_law 1635 = .ok (.aload_n 1, 1) := by decide +kernel
theorem dL_law_1636 : decode cL_law 1636 = .ok (.aload_n 0, 1) := by decide +kernel
theorem dL_law_1637 : decode cL_law 1637 = .ok (.iload 4, 2) := by decide +kernel
theorem dL_law_1639 : decode cL_law 1639 = .ok (.iconst 1, 1) := by decide +kernel
theorem dL_law_1640 : decode cL_law 1640 = .ok (.iadd, 1) := by decide +kernel
theorem dL_law_1641 : decode cL_law 1641 = .ok (.iaload, 1) := by decide +kernel
theorem dL_law_1642 : decode cL_law 1642 = .ok (.aload_n 3, 1) := by decide +kernel
theorem dL_law_1643 : decode cL_law 1643 = .ok (.invokestatic 228, 3) := by decide +kernel
theorem dL_law_1646 : decode cL_law 1646 = .ok (.istore 5, 2) := by decide +kernel
theorem dL_law_1648 : decode cL_law 1648 = .ok (.aload_n 2, 1) := by decide +kernel
theorem dL_law_1649 : decode cL_law 1649 = .ok (.aload_n 0, 1) := by decide +kernel
theorem dL_law_1650 : decode cL_law 1650 = .ok (.iload 4, 2) := by decide +kernel
theorem dL_law_1652 : decode cL_law 1652 = .ok (.iconst 1, 1) := by decide +kernel
theorem dL_law_1653 : decode cL_law 1653 = .ok (.iadd, 1) := by decide +kernel
theorem dL_law_1654 : decode cL_law 1654 = .ok (.iaload, 1) := by decide +kernel
theorem dL_law_1655 : decode cL_law 1655 = .ok (.invokevirtual 230, 3) := by decide +kernel
theorem dL_law_1658 : decode cL_law 1658 = .ok (.istore 6, 2) := by decide +kernel
theorem dL_law_1660 : decode cL_law 1660 = .ok (.aload_n 2, 1) := by decide +kernel
theorem dL_law_1661 : decode cL_law 1661 = .ok (.invokevirtual 139, 3) := by decide +kernel
theorem dL_law_1664 : decode cL_law 1664 = .ok (.iload 5, 2) := by decide +kernel
theorem dL_law_1666 : decode cL_law 1666 = .ok (.if_icmp .eq 5, 3) := by decide +kernel
theorem dL_law_1669 : decode cL_law 1669 = .ok (.iconst 0, 1) := by decide +kernel
theorem dL_law_1670 : decode cL_law 1670 = .ok (.ireturn, 1) := by decide +kernel
theorem dL_law_1671 : decode cL_law 1671 = .ok (.iload 5, 2) := by decide +kernel
theorem dL_law_1673 : decode cL_law 1673 = .ok (.ifCond .ne 15, 3) := by decide +kernel
theorem dL_law_1676 : decode cL_law 1676 = .ok (.aload_n 3, 1) := by decide +kernel
theorem dL_law_1677 : decode cL_law 1677 = .ok (.iconst 0, 1) := by decide +kernel
theorem dL_law_1678 : decode cL_law 1678 = .ok (.laload, 1) := by decide +kernel
theorem dL_law_1679 : decode cL_law 1679 = .ok (.iload 6, 2) := by decide +kernel
theorem dL_law_1681 : decode cL_law 1681 = .ok (.i2l, 1) := by decide +kernel
theorem dL_law_1682 : decode cL_law 1682 = .ok (.lcmp, 1) := by decide +kernel
theorem dL_law_1683 : decode cL_law 1683 = .ok (.ifCond .eq 5, 3) := by decide +kernel
theorem dL_law_1686 : decode cL_law 1686 = .ok (.iconst 0, 1) := by decide +kernel
theorem dL_law_1687 : decode cL_law 1687 = .ok (.ireturn, 1) := by decide +kernel
theorem dL_law_1688 : decode cL_law 1688 = .ok (.goto 978, 3) := by decide +kernel
theorem dL_law_1691 : decode cL_law 1691 = .ok (.aload_n 1, 1) := by decide +kernel
theorem dL_law_1692 : decode cL_law 1692 = .ok (.aload_n 0, 1) := by decide +kernel
theorem dL_law_1693 : decode cL_law 1693 = .ok (.iload 4, 2) := by decide +kernel
theorem dL_law_1695 : decode cL_law 1695 = .ok (.iconst 1, 1) := by decide +kernel
theorem dL_law_1696 : decode cL_law 1696 = .ok (.iadd, 1) := by decide +kernel
theorem dL_law_1697 : decode cL_law 1697 = .ok (.iaload, 1) := by decide +kernel
theorem dL_law_1698 : decode cL_law 1698 = .ok (.aload_n 0, 1) := by decide +kernel
theorem dL_law_1699 : decode cL_law 1699 = .ok (.iload 4, 2) := by decide +kernel
theorem dL_law_1701 : decode cL_law 1701 = .ok (.iconst 2, 1) := by decide +kernel
theorem dL_law_1702 : decode cL_law 1702 = .ok (.iadd, 1) := by decide +kernel
theorem dL_law_1703 : decode cL_law 1703 = .ok (.iaload, 1) := by decide +kernel
theorem dL_law_1704 : decode cL_law 1704 = .ok (.aload_n 3, 1) := by decide +kernel
theorem dL_law_1705 : decode cL_law 1705 = .ok (.invokestatic 231, 3) := by decide +kernel
theorem dL_law_1708 : decode cL_law 1708 = .ok (.istore 5, 2) := by decide +kernel
theorem dL_law_1710 : decode cL_law 1710 = .ok (.aload_n 2, 1) := by decide +kernel
theorem dL_law_1711 : decode cL_law 1711 = .ok (.aload_n 0, 1) := by decide +kernel
theorem dL_law_1712 : decode cL_law 1712 = .ok (.iload 4, 2) := by decide +kernel
theorem dL_law_1714 : decode cL_law 1714 = .ok (.iconst 1, 1) := by decide +kernel
theorem dL_law_1715 : decode cL_law 1715 = .ok (.iadd, 1) := by decide +kernel
theorem dL_law_1716 : decode cL_law 1716 = .ok (.iaload, 1) := by decide +kernel
theorem dL_law_1717 : decode cL_law 1717 = .ok (.aload_n 0, 1) := by decide +kernel
theorem dL_law_1718 : decode cL_law 1718 = .ok (.iload 4, 2) := by decide +kernel
theorem dL_law_1720 : decode cL_law 1720 = .ok (.iconst 2, 1) := by decide +kernel
theorem dL_law_1721 : decode cL_law 1721 = .ok (.iadd, 1) := by decide +kernel
theorem dL_law_1722 : decode cL_law 1722 = .ok (.iaload, 1) := by decide +kernel
theorem dL_law_1723 : decode cL_law 1723 = .ok (.invokevirtual 233, 3) := by decide +kernel
theorem dL_law_1726 : decode cL_law 1726 = .ok (.istore 6, 2) := by decide +kernel
theorem dL_law_1728 : decode cL_law 1728 = .ok (.aload_n 2, 1) := by decide +kernel
theorem dL_law_1729 : decode cL_law 1729 = .ok (.invokevirtual 139, 3) := by decide +kernel
theorem dL_law_1732 : decode cL_law 1732 = .ok (.iload 5, 2) := by decide +kernel
theorem dL_law_1734 : decode cL_law 1734 = .ok (.if_icmp .eq 5, 3) := by decide +kernel
theorem dL_law_1737 : decode cL_law 1737 = .ok (.iconst 0, 1) := by decide +kernel
theorem dL_law_1738 : decode cL_law 1738 = .ok (.ireturn, 1) := by decide +kernel
theorem dL_law_1739 : decode cL_law 1739 = .ok (.iload 5, 2) := by decide +kernel
theorem dL_law_1741 : decode cL_law 1741 = .ok (.ifCond .ne 15, 3) := by decide +kernel
theorem dL_law_1744 : decode cL_law 1744 = .ok (.aload_n 3, 1) := by decide +kernel
theorem dL_law_1745 : decode cL_law 1745 = .ok (.iconst 0, 1) := by decide +kernel
theorem dL_law_1746 : decode cL_law 1746 = .ok (.laload, 1) := by decide +kernel
theorem dL_law_1747 : decode cL_law 1747 = .ok (.iload 6, 2) := by decide +kernel
theorem dL_law_1749 : decode cL_law 1749 = .ok (.i2l, 1) := by decide +kernel
theorem dL_law_1750 : decode cL_law 1750 = .ok (.lcmp, 1) := by decide +kernel
theorem dL_law_1751 : decode cL_law 1751 = .ok (.ifCond .eq 5, 3) := by decide +kernel
theorem dL_law_1754 : decode cL_law 1754 = .ok (.iconst 0, 1) := by decide +kernel
theorem dL_law_1755 : decode cL_law 1755 = .ok (.ireturn, 1) := by decide +kernel
theorem dL_law_1756 : decode cL_law 1756 = .ok (.goto 910, 3) := by decide +kernel
theorem dL_law_1759 : decode cL_law 1759 = .ok (.aload_n 1, 1) := by decide +kernel
theorem dL_law_1760 : decode cL_law 1760 = .ok (.invokevirtual 234, 3) := by decide +kernel
theorem dL_law_1763 : decode cL_law 1763 = .ok (.aload_n 2, 1) := by decide +kernel
theorem dL_law_1764 : decode cL_law 1764 = .ok (.invokevirtual 237, 3) := by decide +kernel
theorem dL_law_1767 : decode cL_law 1767 = .ok (.if_icmp .eq 899, 3) := by decide +kernel
theorem dL_law_1770 : decode cL_law 1770 = .ok (.iconst 0, 1) := by decide +kernel
theorem dL_law_1771 : decode cL_law 1771 = .ok (.ireturn, 1) := by decide +kernel
theorem dL_law_1772 : decode cL_law 1772 = .ok (.aload_n 1, 1) := by decide +kernel
theorem dL_law_1773 : decode cL_law 1773 = .ok (.aload_n 0, 1) := by decide +kernel
theorem dL_law_1774 : decode cL_law 1774 = .ok (.iload 4, 2) := by decide +kernel
theorem dL_law_1776 : decode cL_law 1776 = .ok (.iconst 1, 1) := by decide +kernel
theorem dL_law_1777 : decode cL_law 1777 = .ok (.iadd, 1) := by decide +kernel
theorem dL_law_1778 : decode cL_law 1778 = .ok (.iaload, 1) := by decide +kernel
theorem dL_law_1779 : decode cL_law 1779 = .ok (.aload_n 3, 1) := by decide +kernel
theorem dL_law_1780 : decode cL_law 1780 = .ok (.invokestatic 238, 3) := by decide +kernel
theorem dL_law_1783 : decode cL_law 1783 = .ok (.istore 5, 2) := by decide +kernel
theorem dL_law_1785 : decode cL_law 1785 = .ok (.aload_n 2, 1) := by decide +kernel
theorem dL_law_1786 : decode cL_law 1786 = .ok (.aload_n 0, 1) := by decide +kernel
theorem dL_law_1787 : decode cL_law 1787 = .ok (.iload 4, 2) := by decide +kernel
theorem dL_law_1789 : decode cL_law 1789 = .ok (.iconst 1, 1) := by decide +kernel
theorem dL_law_1790 : decode cL_law 1790 = .ok (.iadd, 1) := by decide +kernel
theorem dL_law_1791 : decode cL_law 1791 = .ok (.iaload, 1) := by decide +kernel
theorem dL_law_1792 : decode cL_law 1792 = .ok (.invokevirtual 240, 3) := by decide +kernel
theorem dL_law_1795 : decode cL_law 1795 = .ok (.istore 6, 2) := by decide +kernel
theorem dL_law_1797 : decode cL_law 1797 = .ok (.aload_n 2, 1) := by decide +kernel
theorem dL_law_1798 : decode cL_law 1798 = .ok (.invokevirtual 139, 3) := by decide +kernel
theorem dL_law_1801 : decode cL_law 1801 = .ok (.iload 5, 2) := by decide +kernel
theorem dL_law_1803 : decode cL_law 1803 = .ok (.if_icmp .eq 5, 3) := by decide +kernel
theorem dL_law_1806 : decode cL_law 1806 = .ok (.iconst 0, 1) := by decide +kernel
theorem dL_law_1807 : decode cL_law 1807 = .ok (.ireturn, 1) := by decide +kernel
theorem dL_law_1808 : decode cL_law 1808 = .ok (.iload 5, 2) := by decide +kernel
theorem dL_law_1810 : decode cL_law 1810 = .ok (.ifCond .ne 15, 3) := by decide +kernel
theorem dL_law_1813 : decode cL_law 1813 = .ok (.aload_n 3, 1) := by decide +kernel
theorem dL_law_1814 : decode cL_law 1814 = .ok (.iconst 0, 1) := by decide +kernel
theorem dL_law_1815 : decode cL_law 1815 = .ok (.laload, 1) := by decide +kernel
theorem dL_law_1816 : decode cL_law 1816 = .ok (.iload 6, 2) := by decide +kernel
theorem dL_law_1818 : decode cL_law 1818 = .ok (.i2l, 1) := by decide +kernel
theorem dL_law_1819 : decode cL_law 1819 = .ok (.lcmp, 1) := by decide +kernel
theorem dL_law_1820 : decode cL_law 1820 = .ok (.ifCond .eq 5, 3) := by decide +kernel
theorem dL_law_1823 : decode cL_law 1823 = .ok (.iconst 0, 1) := by decide +kernel
theorem dL_law_1824 : decode cL_law 1824 = .ok (.ireturn, 1) := by decide +kernel
theorem dL_law_1825 : decode cL_law 1825 = .ok (.goto 841, 3) := by decide +kernel
theorem dL_law_1828 : decode cL_law 1828 = .ok (.aload_n 1, 1) := by decide +kernel
theorem dL_law_1829 : decode cL_law 1829 = .ok (.aload_n 0, 1) := by decide +kernel
theorem dL_law_1830 : decode cL_law 1830 = .ok (.iload 4, 2) := by decide +kernel
theorem dL_law_1832 : decode cL_law 1832 = .ok (.iconst 1, 1) := by decide +kernel
theorem dL_law_1833 : decode cL_law 1833 = .ok (.iadd, 1) := by decide +kernel
theorem dL_law_1834 : decode cL_law 1834 = .ok (.iaload, 1) := by decide +kernel
theorem dL_law_1835 : decode cL_law 1835 = .ok (.aload_n 3, 1) := by decide +kernel
theorem dL_law_1836 : decode cL_law 1836 = .ok (.invokestatic 241, 3) := by decide +kernel
theorem dL_law_1839 : decode cL_law 1839 = .ok (.istore 5, 2) := by decide +kernel
theorem dL_law_1841 : decode cL_law 1841 = .ok (.aload_n 2, 1) := by decide +kernel
theorem dL_law_1842 : decode cL_law 1842 = .ok (.aload_n 0, 1) := by decide +kernel
theorem dL_law_1843 : decode cL_law 1843 = .ok (.iload 4, 2) := by decide +kernel
theorem dL_law_1845 : decode cL_law 1845 = .ok (.iconst 1, 1) := by decide +kernel
theorem dL_law_1846 : decode cL_law 1846 = .ok (.iadd, 1) := by decide +kernel
theorem dL_law_1847 : decode cL_law 1847 = .ok (.iaload, 1) := by decide +kernel
theorem dL_law_1848 : decode cL_law 1848 = .ok (.invokevirtual 243, 3) := by decide +kernel
theorem dL_law_1851 : decode cL_law 1851 = .ok (.istore 6, 2) := by decide +kernel
theorem dL_law_1853 : decode cL_law 1853 = .ok (.aload_n 2, 1) := by decide +kernel
theorem dL_law_1854 : decode cL_law 1854 = .ok (.invokevirtual 139, 3) := by decide +kernel
theorem dL_law_1857 : decode cL_law 1857 = .ok (.iload 5, 2) := by decide +kernel
theorem dL_law_1859 : decode cL_law 1859 = .ok (.if_icmp .eq 5, 3) := by decide +kernel
theorem dL_law_1862 : decode cL_law 1862 = .ok (.iconst 0, 1) := by decide +kernel
theorem dL_law_1863 : decode cL_law 1863 = .ok (.ireturn, 1) := by decide +kernel
theorem dL_law_1864 : decode cL_law 1864 = .ok (.iload 5, 2) := by decide +kernel
theorem dL_law_1866 : decode cL_law 1866 = .ok (.ifCond .ne 15, 3) := by decide +kernel
theorem dL_law_1869 : decode cL_law 1869 = .ok (.aload_n 3, 1) := by decide +kernel
theorem dL_law_1870 : decode cL_law 1870 = .ok (.iconst 0, 1) := by decide +kernel
theorem dL_law_1871 : decode cL_law 1871 = .ok (.laload, 1) := by decide +kernel
theorem dL_law_1872 : decode cL_law 1872 = .ok (.iload 6, 2) := by decide +kernel
theorem dL_law_1874 : decode cL_law 1874 = .ok (.i2l, 1) := by decide +kernel
theorem dL_law_1875 : decode cL_law 1875 = .ok (.lcmp, 1) := by decide +kernel
theorem dL_law_1876 : decode cL_law 1876 = .ok (.ifCond .eq 5, 3) := by decide +kernel
theorem dL_law_1879 : decode cL_law 1879 = .ok (.iconst 0, 1) := by decide +kernel
theorem dL_law_1880 : decode cL_law 1880 = .ok (.ireturn, 1) := by decide +kernel
theorem dL_law_1881 : decode cL_law 1881 = .ok (.goto 785, 3) := by decide +kernel
theorem dL_law_1884 : decode cL_law 1884 = .ok (.aload_n 1, 1) := by decide +kernel
theorem dL_law_1885 : decode cL_law 1885 = .ok (.aload_n 0, 1) := by decide +kernel
theorem dL_law_1886 : decode cL_law 1886 = .ok (.iload 4, 2) := by decide +kernel
theorem dL_law_1888 : decode cL_law 1888 = .ok (.iconst 1, 1) := by decide +kernel
theorem dL_law_1889 : decode cL_law 1889 = .ok (.iadd, 1) := by decide +kernel
theorem dL_law_1890 : decode cL_law 1890 = .ok (.iaload, 1) := by decide +kernel
theorem dL_law_1891 : decode cL_law 1891 = .ok (.aload_n 3, 1) := by decide +kernel
theorem dL_law_1892 : decode cL_law 1892 = .ok (.invokestatic 244, 3) := by decide +kernel
theorem dL_law_1895 : decode cL_law 1895 = .ok (.istore 5, 2) := by decide +kernel
theorem dL_law_1897 : decode cL_law 1897 = .ok (.aload_n 2, 1) := by decide +kernel
theorem dL_law_1898 : decode cL_law 1898 = .ok (.aload_n 0, 1) := by decide +kernel
theorem dL_law_1899 : decode cL_law 1899 = .ok (.iload 4, 2) := by decide +kernel
theorem dL_law_1901 : decode cL_law 1901 = .ok (.iconst 1, 1) := by decide +kernel
theorem dL_law_1902 : decode cL_law 1902 = .ok (.iadd, 1) := by decide +kernel
theorem dL_law_1903 : decode cL_law 1903 = .ok (.iaload, 1) := by decide +kernel
theorem dL_law_1904 : decode cL_law 1904 = .ok (.invokevirtual 246, 3) := by decide +kernel
theorem dL_law_1907 : decode cL_law 1907 = .ok (.istore 6, 2) := by decide +kernel
theorem dL_law_1909 : decode cL_law 1909 = .ok (.aload_n 2, 1) := by decide +kernel
theorem dL_law_1910 : decode cL_law 1910 = .ok (.invokevirtual 139, 3) := by decide +kernel
theorem dL_law_1913 : decode cL_law 1913 = .ok (.iload 5, 2) := by decide +kernel
theorem dL_law_1915 : decode cL_law 1915 = .ok (.if_icmp .eq 5, 3) := by decide +kernel
theorem dL_law_1918 : decode cL_law 1918 = .ok (.iconst 0, 1) := by decide +kernel
theorem dL_law_1919 : decode cL_law 1919 = .ok (.ireturn, 1) := by decide +kernel
theorem dL_law_1920 : decode cL_law 1920 = .ok (.iload 5, 2) := by decide +kernel
theorem dL_law_1922 : decode cL_law 1922 = .ok (.ifCond .ne 15, 3) := by decide +kernel
theorem dL_law_1925 : decode cL_law 1925 = .ok (.aload_n 3, 1) := by decide +kernel
theorem dL_law_1926 : decode cL_law 1926 = .ok (.iconst 0, 1) := by decide +kernel
theorem dL_law_1927 : decode cL_law 1927 = .ok (.laload, 1) := by decide +kernel
theorem dL_law_1928 : decode cL_law 1928 = .ok (.iload 6, 2) := by decide +kernel
theorem dL_law_1930 : decode cL_law 1930 = .ok (.i2l, 1) := by decide +kernel
theorem dL_law_1931 : decode cL_law 1931 = .ok (.lcmp, 1) := by decide +kernel
theorem dL_law_1932 : decode cL_law 1932 = .ok (.ifCond .eq 5, 3) := by decide +kernel
theorem dL_law_1935 : decode cL_law 1935 = .ok (.iconst 0, 1) := by decide +kernel
theorem dL_law_1936 : decode cL_law 1936 = .ok (.ireturn, 1) := by decide +kernel
theorem dL_law_1937 : decode cL_law 1937 = .ok (.goto 729, 3) := by decide +kernel
theorem dL_law_1940 : decode cL_law 1940 = .ok (.aload_n 1, 1) := by decide +kernel
theorem dL_law_1941 : decode cL_law 1941 = .ok (.aload_n 0, 1) := by decide +kernel
theorem dL_law_1942 : decode cL_law 1942 = .ok (.iload 4, 2) := by decide +kernel
theorem dL_law_1944 : decode cL_law 1944 = .ok (.iconst 1, 1) := by decide +kernel
theorem dL_law_1945 : decode cL_law 1945 = .ok (.iadd, 1) := by decide +kernel
theorem dL_law_1946 : decode cL_law 1946 = .ok (.iaload, 1) := by decide +kernel
theorem dL_law_1947 : decode cL_law 1947 = .ok (.aload_n 3, 1) := by decide +kernel
theorem dL_law_1948 : decode cL_law 1948 = .ok (.invokestatic 247, 3) := by decide +kernel
theorem dL_law_1951 : decode cL_law 1951 = .ok (.istore 5, 2) := by decide +kernel
theorem dL_law_1953 : decode cL_law 1953 = .ok (.aload_n 2, 1) := by decide +kernel
theorem dL_law_1954 : decode cL_law 1954 = .ok (.aload_n 0, 1) := by decide +kernel
theorem dL_law_1955 : decode cL_law 1955 = .ok (.iload 4, 2) := by decide +kernel
theorem dL_law_1957 : decode cL_law 1957 = .ok (.iconst 1, 1) := by decide +kernel
theorem dL_law_1958 : decode cL_law 1958 = .ok (.iadd, 1) := by decide +kernel
theorem dL_law_1959 : decode cL_law 1959 = .ok (.iaload, 1) := by decide +kernel
theorem dL_law_1960 : decode cL_law 1960 = .ok (.invokevirtual 249, 3) := by decide +kernel
theorem dL_law_1963 : decode cL_law 1963 = .ok (.istore 6, 2) := by decide +kernel
theorem dL_law_1965 : decode cL_law 1965 = .ok (.aload_n 2, 1) := by decide +kernel
theorem dL_law_1966 : decode cL_law 1966 = .ok (.invokevirtual 139, 3) := by decide +kernel
theorem dL_law_1969 : decode cL_law 1969 = .ok (.iload 5, 2) := by decide +kernel
theorem dL_law_1971 : decode cL_law 1971 = .ok (.if_icmp .eq 5, 3) := by decide +kernel
theorem dL_law_1974 : decode cL_law 1974 = .ok (.iconst 0, 1) := by decide +kernel
theorem dL_law_1975 : decode cL_law 1975 = .ok (.ireturn, 1) := by decide +kernel
theorem dL_law_1976 : decode cL_law 1976 = .ok (.iload 5, 2) := by decide +kernel
theorem dL_law_1978 : decode cL_law 1978 = .ok (.ifCond .ne 15, 3) := by decide +kernel
theorem dL_law_1981 : decode cL_law 1981 = .ok (.aload_n 3, 1) := by decide +kernel
theorem dL_law_1982 : decode cL_law 1982 = .ok (.iconst 0, 1) := by decide +kernel
theorem dL_law_1983 : decode cL_law 1983 = .ok (.laload, 1) := by decide +kernel
theorem dL_law_1984 : decode cL_law 1984 = .ok (.iload 6, 2) := by decide +kernel
theorem dL_law_1986 : decode cL_law 1986 = .ok (.i2l, 1) := by decide +kernel
theorem dL_law_1987 : decode cL_law 1987 = .ok (.lcmp, 1) := by decide +kernel
theorem dL_law_1988 : decode cL_law 1988 = .ok (.ifCond .eq 5, 3) := by decide +kernel
theorem dL_law_1991 : decode cL_law 1991 = .ok (.iconst 0, 1) := by decide +kernel
theorem dL_law_1992 : decode cL_law 1992 = .ok (.ireturn, 1) := by decide +kernel
theorem dL_law_1993 : decode cL_law 1993 = .ok (.goto 673, 3) := by decide +kernel
theorem dL_law_1996 : decode cL_law 1996 = .ok (.aload_n 1, 1) := by decide +kernel
theorem dL_law_1997 : decode cL_law 1997 = .ok (.aload_n 0, 1) := by decide +kernel
theorem dL_law_1998 : decode cL_law 1998 = .ok (.iload 4, 2) := by decide +kernel
theorem dL_law_2000 : decode cL_law 2000 = .ok (.iconst 1, 1) := by decide +kernel
theorem dL_law_2001 : decode cL_law 2001 = .ok (.iadd, 1) := by decide +kernel
theorem dL_law_2002 : decode cL_law 2002 = .ok (.iaload, 1) := by decide +kernel
theorem dL_law_2003 : decode cL_law 2003 = .ok (.aload_n 3, 1) := by decide +kernel
theorem dL_law_2004 : decode cL_law 2004 = .ok (.invokestatic 250, 3) := by decide +kernel
theorem dL_law_2007 : decode cL_law 2007 = .ok (.istore 5, 2) := by decide +kernel
theorem dL_law_2009 : decode cL_law 2009 = .ok (.aload_n 2, 1) := by decide +kernel
theorem dL_law_2010 : decode cL_law 2010 = .ok (.aload_n 0, 1) := by decide +kernel
theorem dL_law_2011 : decode cL_law 2011 = .ok (.iload 4, 2) := by decide +kernel
theorem dL_law_2013 : decode cL_law 2013 = .ok (.iconst 1, 1) := by decide +kernel
theorem dL_law_2014 : decode cL_law 2014 = .ok (.iadd, 1) := by decide +kernel
theorem dL_law_2015 : decode cL_law 2015 = .ok (.iaload, 1) := by decide +kernel
theorem dL_law_2016 : decode cL_law 2016 = .ok (.invokevirtual 252, 3) := by decide +kernel
theorem dL_law_2019 : decode cL_law 2019 = .ok (.istore 6, 2) := by decide +kernel
theorem dL_law_2021 : decode cL_law 2021 = .ok (.aload_n 2, 1) := by decide +kernel
theorem dL_law_2022 : decode cL_law 2022 = .ok (.invokevirtual 139, 3) := by decide +kernel
theorem dL_law_2025 : decode cL_law 2025 = .ok (.iload 5, 2) := by decide +kernel
theorem dL_law_2027 : decode cL_law 2027 = .ok (.if_icmp .eq 5, 3) := by decide +kernel
theorem dL_law_2030 : decode cL_law 2030 = .ok (.iconst 0, 1) := by decide +kernel
theorem dL_law_2031 : decode cL_law 2031 = .ok (.ireturn, 1) := by decide +kernel
theorem dL_law_2032 : decode cL_law 2032 = .ok (.iload 5, 2) := by decide +kernel
theorem dL_law_2034 : decode cL_law 2034 = .ok (.ifCond .ne 15, 3) := by decide +kernel
theorem dL_law_2037 : decode cL_law 2037 = .ok (.aload_n 3, 1) := by decide +kernel
theorem dL_law_2038 : decode cL_law 2038 = .ok (.iconst 0, 1) := by decide +kernel
theorem dL_law_2039 : decode cL_law 2039 = .ok (.laload, 1) := by decide +kernel
theorem dL_law_2040 : decode cL_law 2040 = .ok (.iload 6, 2) := by decide +kernel
theorem dL_law_2042 : decode cL_law 2042 = .ok (.i2l, 1) := by decide +kernel
theorem dL_law_2043 : decode cL_law 2043 = .ok (.lcmp, 1) := by decide +kernel
theorem dL_law_2044 : decode cL_law 2044 = .ok (.ifCond .eq 5, 3) := by decide +kernel
theorem dL_law_2047 : decode cL_law 2047 = .ok (.iconst 0, 1) := by decide +kernel
theorem dL_law_2048 : decode cL_law 2048 = .ok (.ireturn, 1) := by decide +kernel
theorem dL_law_2049 : decode cL_law 2049 = .ok (.goto 617, 3) := by decide +kernel
theorem dL_law_2052 : decode cL_law 2052 = .ok (.aload_n 1, 1) := by decide +kernel
theorem dL_law_2053 : decode cL_law 2053 = .ok (.aload_n 0, 1) := by decide +kernel
theorem dL_law_2054 : decode cL_law 2054 = .ok (.iload 4, 2) := by decide +kernel
theorem dL_law_2056 : decode cL_law 2056 = .ok (.iconst 1, 1) := by decide +kernel
theorem dL_law_2057 : decode cL_law 2057 = .ok (.iadd, 1) := by decide +kernel
theorem dL_law_2058 : decode cL_law 2058 = .ok (.iaload, 1) := by decide +kernel
theorem dL_law_2059 : decode cL_law 2059 = .ok (.aload_n 3, 1) := by decide +kernel
theorem dL_law_2060 : decode cL_law 2060 = .ok (.invokestatic 253, 3) := by decide +kernel
theorem dL_law_2063 : decode cL_law 2063 = .ok (.istore 5, 2) := by decide +kernel
theorem dL_law_2065 : decode cL_law 2065 = .ok (.aload_n 2, 1) := by decide +kernel
theorem dL_law_2066 : decode cL_law 2066 = .ok (.aload_n 0, 1) := by decide +kernel
theorem dL_law_2067 : decode cL_law 2067 = .ok (.iload 4, 2) := by decide +kernel
theorem dL_law_2069 : decode cL_law 2069 = .ok (.iconst 1, 1) := by decide +kernel
theorem dL_law_2070 : decode cL_law 2070 = .ok (.iadd, 1) := by decide +kernel
theorem dL_law_2071 : decode cL_law 2071 = .ok (.iaload, 1) := by decide +kernel
theorem dL_law_2072 : decode cL_law 2072 = .ok (.invokevirtual 255, 3) := by decide +kernel
theorem dL_law_2075 : decode cL_law 2075 = .ok (.istore 6, 2) := by decide +kernel
theorem dL_law_2077 : decode cL_law 2077 = .ok (.aload_n 2, 1) := by decide +kernel
theorem dL_law_2078 : decode cL_law 2078 = .ok (.invokevirtual 139, 3) := by decide +kernel
theorem dL_law_2081 : decode cL_law 2081 = .ok (.iload 5, 2) := by decide +kernel
theorem dL_law_2083 : decode cL_law 2083 = .ok (.if_icmp .eq 5, 3) := by decide +kernel
theorem dL_law_2086 : decode cL_law 2086 = .ok (.iconst 0, 1) := by decide +kernel
theorem dL_law_2087 : decode cL_law 2087 = .ok (.ireturn, 1) := by decide +kernel
theorem dL_law_2088 : decode cL_law 2088 = .ok (.iload 5, 2) := by decide +kernel
theorem dL_law_2090 : decode cL_law 2090 = .ok (.ifCond .ne 15, 3) := by decide +kernel
theorem dL_law_2093 : decode cL_law 2093 = .ok (.aload_n 3, 1) := by decide +kernel
theorem dL_law_2094 : decode cL_law 2094 = .ok (.iconst 0, 1) := by decide +kernel
theorem dL_law_2095 : decode cL_law 2095 = .ok (.laload, 1) := by decide +kernel
theorem dL_law_2096 : decode cL_law 2096 = .ok (.iload 6, 2) := by decide +kernel
theorem dL_law_2098 : decode cL_law 2098 = .ok (.i2l, 1) := by decide +kernel
theorem dL_law_2099 : decode cL_law 2099 = .ok (.lcmp, 1) := by decide +kernel
theorem dL_law_2100 : decode cL_law 2100 = .ok (.ifCond .eq 5, 3) := by decide +kernel
theorem dL_law_2103 : decode cL_law 2103 = .ok (.iconst 0, 1) := by decide +kernel
theorem dL_law_2104 : decode cL_law 2104 = .ok (.ireturn, 1) := by decide +kernel
theorem dL_law_2105 : decode cL_law 2105 = .ok (.goto 561, 3) := by decide +kernel
theorem dL_law_2108 : decode cL_law 2108 = .ok (.aload_n 1, 1) := by decide +kernel
theorem dL_law_2109 : decode cL_law 2109 = .ok (.aload_n 0, 1) := by decide +kernel
theorem dL_law_2110 : decode cL_law 2110 = .ok (.iload 4, 2) := by decide +kernel
theorem dL_law_2112 : decode cL_law 2112 = .ok (.iconst 1, 1) := by decide +kernel
theorem dL_law_2113 : decode cL_law 2113 = .ok (.iadd, 1) := by decide +kernel
theorem dL_law_2114 : decode cL_law 2114 = .ok (.iaload, 1) := by decide +kernel
theorem dL_law_2115 : decode cL_law 2115 = .ok (.aload_n 3, 1) := by decide +kernel
theorem dL_law_2116 : decode cL_law 2116 = .ok (.invokestatic 256, 3) := by decide +kernel
theorem dL_law_2119 : decode cL_law 2119 = .ok (.istore 5, 2) := by decide +kernel
theorem dL_law_2121 : decode cL_law 2121 = .ok (.aload_n 2, 1) := by decide +kernel
theorem dL_law_2122 : decode cL_law 2122 = .ok (.aload_n 0, 1) := by decide +kernel
theorem dL_law_2123 : decode cL_law 2123 = .ok (.iload 4, 2) := by decide +kernel
theorem dL_law_2125 : decode cL_law 2125 = .ok (.iconst 1, 1) := by decide +kernel
theorem dL_law_2126 : decode cL_law 2126 = .ok (.iadd, 1) := by decide +kernel
theorem dL_law_2127 : decode cL_law 2127 = .ok (.iaload, 1) := by decide +kernel
theorem dL_law_2128 : decode cL_law 2128 = .ok (.invokevirtual 258, 3) := by decide +kernel
theorem dL_law_2131 : decode cL_law 2131 = .ok (.istore 6, 2) := by decide +kernel
theorem dL_law_2133 : decode cL_law 2133 = .ok (.aload_n 2, 1) := by decide +kernel
theorem dL_law_2134 : decode cL_law 2134 = .ok (.invokevirtual 139, 3) := by decide +kernel
theorem dL_law_2137 : decode cL_law 2137 = .ok (.iload 5, 2) := by decide +kernel
theorem dL_law_2139 : decode cL_law 2139 = .ok (.if_icmp .eq 5, 3) := by decide +kernel
theorem dL_law_2142 : decode cL_law 2142 = .ok (.iconst 0, 1) := by decide +kernel
theorem dL_law_2143 : decode cL_law 2143 = .ok (.ireturn, 1) := by decide +kernel
theorem dL_law_2144 : decode cL_law 2144 = .ok (.iload 5, 2) := by decide +kernel
theorem dL_law_2146 : decode cL_law 2146 = .ok (.ifCond .ne 15, 3) := by decide +kernel
theorem dL_law_2149 : decode cL_law 2149 = .ok (.aload_n 3, 1) := by decide +kernel
theorem dL_law_2150 : decode cL_law 2150 = .ok (.iconst 0, 1) := by decide +kernel
theorem dL_law_2151 : decode cL_law 2151 = .ok (.laload, 1) := by decide +kernel
theorem dL_law_2152 : decode cL_law 2152 = .ok (.iload 6, 2) := by decide +kernel
theorem dL_law_2154 : decode cL_law 2154 = .ok (.i2l, 1) := by decide +kernel
theorem dL_law_2155 : decode cL_law 2155 = .ok (.lcmp, 1) := by decide +kernel
theorem dL_law_2156 : decode cL_law 2156 = .ok (.ifCond .eq 5, 3) := by decide +kernel
theorem dL_law_2159 : decode cL_law 2159 = .ok (.iconst 0, 1) := by decide +kernel
theorem dL_law_2160 : decode cL_law 2160 = .ok (.ireturn, 1) := by decide +kernel
theorem dL_law_2161 : decode cL_law 2161 = .ok (.goto 505, 3) := by decide +kernel
theorem dL_law_2164 : decode cL_law 2164 = .ok (.aload_n 1, 1) := by decide +kernel
theorem dL_law_2165 : decode cL_law 2165 = .ok (.aload_n 0, 1) := by decide +kernel
theorem dL_law_2166 : decode cL_law 2166 = .ok (.iload 4, 2) := by decide +kernel
theorem dL_law_2168 : decode cL_law 2168 = .ok (.iconst 1, 1) := by decide +kernel
theorem dL_law_2169 : decode cL_law 2169 = .ok (.iadd, 1) := by decide +kernel
theorem dL_law_2170 : decode cL_law 2170 = .ok (.iaload, 1) := by decide +kernel
theorem dL_law_2171 : decode cL_law 2171 = .ok (.aload_n 0, 1) := by decide +kernel
theorem dL_law_2172 : decode cL_law 2172 = .ok (.iload 4, 2) := by decide +kernel
theorem dL_law_2174 : decode cL_law 2174 = .ok (.iconst 2, 1) := by decide +kernel
theorem dL_law_2175 : decode cL_law 2175 = .ok (.iadd, 1) := by decide +kernel
theorem dL_law_2176 : decode cL_law 2176 = .ok (.iaload, 1) := by decide +kernel
theorem dL_law_2177 : decode cL_law 2177 = .ok (.aload_n 3, 1) := by decide +kernel
theorem dL_law_2178 : decode cL_law 2178 = .ok (.invokestatic 259, 3) := by decide +kernel
theorem dL_law_2181 : decode cL_law 2181 = .ok (.istore 5, 2) := by decide +kernel
theorem dL_law_2183 : decode cL_law 2183 = .ok (.aload_n 2, 1) := by decide +kernel
theorem dL_law_2184 : decode cL_law 2184 = .ok (.aload_n 0, 1) := by decide +kernel
theorem dL_law_2185 : decode cL_law 2185 = .ok (.iload 4, 2) := by decide +kernel
theorem dL_law_2187 : decode cL_law 2187 = .ok (.iconst 1, 1) := by decide +kernel
theorem dL_law_2188 : decode cL_law 2188 = .ok (.iadd, 1) := by decide +kernel
theorem dL_law_2189 : decode cL_law 2189 = .ok (.iaload, 1) := by decide +kernel
theorem dL_law_2190 : decode cL_law 2190 = .ok (.aload_n 0, 1) := by decide +kernel
theorem dL_law_2191 : decode cL_law 2191 = .ok (.iload 4, 2) := by decide +kernel
theorem dL_law_2193 : decode cL_law 2193 = .ok (.iconst 2, 1) := by decide +kernel
theorem dL_law_2194 : decode cL_law 2194 = .ok (.iadd, 1) := by decide +kernel
theorem dL_law_2195 : decode cL_law 2195 = .ok (.iaload, 1) := by decide +kernel
theorem dL_law_2196 : decode cL_law 2196 = .ok (.invokevirtual 261, 3) := by decide +kernel
theorem dL_law_2199 : decode cL_law 2199 = .ok (.istore 6, 2) := by decide +kernel
theorem dL_law_2201 : decode cL_law 2201 = .ok (.aload_n 2, 1) := by decide +kernel
theorem dL_law_2202 : decode cL_law 2202 = .ok (.invokevirtual 139, 3) := by decide +kernel
theorem dL_law_2205 : decode cL_law 2205 = .ok (.iload 5, 2) := by decide +kernel
theorem dL_law_2207 : decode cL_law 2207 = .ok (.if_icmp .eq 5, 3) := by decide +kernel
theorem dL_law_2210 : decode cL_law 2210 = .ok (.iconst 0, 1) := by decide +kernel
theorem dL_law_2211 : decode cL_law 2211 = .ok (.ireturn, 1) := by decide +kernel
theorem dL_law_2212 : decode cL_law 2212 = .ok (.iload 5, 2) := by decide +kernel
theorem dL_law_2214 : decode cL_law 2214 = .ok (.ifCond .ne 15, 3) := by decide +kernel
theorem dL_law_2217 : decode cL_law 2217 = .ok (.aload_n 3, 1) := by decide +kernel
theorem dL_law_2218 : decode cL_law 2218 = .ok (.iconst 0, 1) := by decide +kernel
theorem dL_law_2219 : decode cL_law 2219 = .ok (.laload, 1) := by decide +kernel
theorem dL_law_2220 : decode cL_law 2220 = .ok (.iload 6, 2) := by decide +kernel
theorem dL_law_2222 : decode cL_law 2222 = .ok (.i2l, 1) := by decide +kernel
theorem dL_law_2223 : decode cL_law 2223 = .ok (.lcmp, 1) := by decide +kernel
theorem dL_law_2224 : decode cL_law 2224 = .ok (.ifCond .eq 5, 3) := by decide +kernel
theorem dL_law_2227 : decode cL_law 2227 = .ok (.iconst 0, 1) := by decide +kernel
theorem dL_law_2228 : decode cL_law 2228 = .ok (.ireturn, 1) := by decide +kernel
theorem dL_law_2229 : decode cL_law 2229 = .ok (.goto 437, 3) := by decide +kernel
theorem dL_law_2232 : decode cL_law 2232 = .ok (.aload_n 1, 1) := by decide +kernel
theorem dL_law_2233 : decode cL_law 2233 = .ok (.aload_n 0, 1) := by decide +kernel
theorem dL_law_2234 : decode cL_law 2234 = .ok (.iload 4, 2) := by decide +kernel
theorem dL_law_2236 : decode cL_law 2236 = .ok (.iconst 1, 1) := by decide +kernel
theorem dL_law_2237 : decode cL_law 2237 = .ok (.iadd, 1) := by decide +kernel
theorem dL_law_2238 : decode cL_law 2238 = .ok (.iaload, 1) := by decide +kernel
theorem dL_law_2239 : decode cL_law 2239 = .ok (.aload_n 0, 1) := by decide +kernel
theorem dL_law_2240 : decode cL_law 2240 = .ok (.iload 4, 2) := by decide +kernel
theorem dL_law_2242 : decode cL_law 2242 = .ok (.iconst 2, 1) := by decide +kernel
theorem dL_law_2243 : decode cL_law 2243 = .ok (.iadd, 1) := by decide +kernel
theorem dL_law_2244 : decode cL_law 2244 = .ok (.iaload, 1) := by decide +kernel
theorem dL_law_2245 : decode cL_law 2245 = .ok (.aload_n 3, 1) := by decide +kernel
theorem dL_law_2246 : decode cL_law 2246 = .ok (.invokestatic 262, 3) := by decide +kernel
theorem dL_law_2249 : decode cL_law 2249 = .ok (.istore 5, 2) := by decide +kernel
theorem dL_law_2251 : decode cL_law 2251 = .ok (.aload_n 2, 1) := by decide +kernel
theorem dL_law_2252 : decode cL_law 2252 = .ok (.aload_n 0, 1) := by decide +kernel
theorem dL_law_2253 : decode cL_law 2253 = .ok (.iload 4, 2) := by decide +kernel
theorem dL_law_2255 : decode cL_law 2255 = .ok (.iconst 1, 1) := by decide +kernel
theorem dL_law_2256 : decode cL_law 2256 = .ok (.iadd, 1) := by decide +kernel
theorem dL_law_2257 : decode cL_law 2257 = .ok (.iaload, 1) := by decide +kernel
theorem dL_law_2258 : decode cL_law 2258 = .ok (.aload_n 0, 1) := by decide +kernel
theorem dL_law_2259 : decode cL_law 2259 = .ok (.iload 4, 2) := by decide +kernel
theorem dL_law_2261 : decode cL_law 2261 = .ok (.iconst 2, 1) := by decide +kernel
theorem dL_law_2262 : decode cL_law 2262 = .ok (.iadd, 1) := by decide +kernel
theorem dL_law_2263 : decode cL_law 2263 = .ok (.iaload, 1) := by decide +kernel
theorem dL_law_2264 : decode cL_law 2264 = .ok (.invokevirtual 264, 3) := by decide +kernel
theorem dL_law_2267 : decode cL_law 2267 = .ok (.istore 6, 2) := by decide +kernel
theorem dL_law_2269 : decode cL_law 2269 = .ok (.aload_n 2, 1) := by decide +kernel
theorem dL_law_2270 : decode cL_law 2270 = .ok (.invokevirtual 139, 3) := by decide +kernel
theorem dL_law_2273 : decode cL_law 2273 = .ok (.iload 5, 2) := by decide +kernel
theorem dL_law_2275 : decode cL_law 2275 = .ok (.if_icmp .eq 5, 3) := by decide +kernel
theorem dL_law_2278 : decode cL_law 2278 = .ok (.iconst 0, 1) := by decide +kernel
theorem dL_law_2279 : decode cL_law 2279 = .ok (.ireturn, 1) := by decide +kernel
theorem dL_law_2280 : decode cL_law 2280 = .ok (.iload 5, 2) := by decide +kernel
theorem dL_law_2282 : decode cL_law 2282 = .ok (.ifCond .ne 15, 3) := by decide +kernel
theorem dL_law_2285 : decode cL_law 2285 = .ok (.aload_n 3, 1) := by decide +kernel
theorem dL_law_2286 : decode cL_law 2286 = .ok (.iconst 0, 1) := by decide +kernel
theorem dL_law_2287 : decode cL_law 2287 = .ok (.laload, 1) := by decide +kernel
theorem dL_law_2288 : decode cL_law 2288 = .ok (.iload 6, 2) := by decide +kernel
theorem dL_law_2290 : decode cL_law 2290 = .ok (.i2l, 1) := by decide +kernel
theorem dL_law_2291 : decode cL_law 2291 = .ok (.lcmp, 1) := by decide +kernel
theorem dL_law_2292 : decode cL_law 2292 = .ok (.ifCond .eq 5, 3) := by decide +kernel
theorem dL_law_2295 : decode cL_law 2295 = .ok (.iconst 0, 1) := by decide +kernel
theorem dL_law_2296 : decode cL_law 2296 = .ok (.ireturn, 1) := by decide +kernel
theorem dL_law_2297 : decode cL_law 2297 = .ok (.goto 369, 3) := by decide +kernel
theorem dL_law_2300 : decode cL_law 2300 = .ok (.aload_n 1, 1) := by decide +kernel
theorem dL_law_2301 : decode cL_law 2301 = .ok (.aload_n 0, 1) := by decide +kernel
theorem dL_law_2302 : decode cL_law 2302 = .ok (.iload 4, 2) := by decide +kernel
theorem dL_law_2304 : decode cL_law 2304 = .ok (.iconst 1, 1) := by decide +kernel
theorem dL_law_2305 : decode cL_law 2305 = .ok (.iadd, 1) := by decide +kernel
theorem dL_law_2306 : decode cL_law 2306 = .ok (.iaload, 1) := by decide +kernel
theorem dL_law_2307 : decode cL_law 2307 = .ok (.aload_n 0, 1) := by decide +kernel
theorem dL_law_2308 : decode cL_law 2308 = .ok (.iload 4, 2) := by decide +kernel
theorem dL_law_2310 : decode cL_law 2310 = .ok (.iconst 2, 1) := by decide +kernel
theorem dL_law_2311 : decode cL_law 2311 = .ok (.iadd, 1) := by decide +kernel
theorem dL_law_2312 : decode cL_law 2312 = .ok (.iaload, 1) := by decide +kernel
theorem dL_law_2313 : decode cL_law 2313 = .ok (.aload_n 3, 1) := by decide +kernel
theorem dL_law_2314 : decode cL_law 2314 = .ok (.invokestatic 265, 3) := by decide +kernel
theorem dL_law_2317 : decode cL_law 2317 = .ok (.istore 5, 2) := by decide +kernel
theorem dL_law_2319 : decode cL_law 2319 = .ok (.aload_n 2, 1) := by decide +kernel
theorem dL_law_2320 : decode cL_law 2320 = .ok (.aload_n 0, 1) := by decide +kernel
theorem dL_law_2321 : decode cL_law 2321 = .ok (.iload 4, 2) := by decide +kernel
theorem dL_law_2323 : decode cL_law 2323 = .ok (.iconst 1, 1) := by decide +kernel
theorem dL_law_2324 : decode cL_law 2324 = .ok (.iadd, 1) := by decide +kernel
theorem dL_law_2325 : decode cL_law 2325 = .ok (.iaload, 1) := by decide +kernel
theorem dL_law_2326 : decode cL_law 2326 = .ok (.aload_n 0, 1) := by decide +kernel
theorem dL_law_2327 : decode cL_law 2327 = .ok (.iload 4, 2) := by decide +kernel
theorem dL_law_2329 : decode cL_law 2329 = .ok (.iconst 2, 1) := by decide +kernel
theorem dL_law_2330 : decode cL_law 2330 = .ok (.iadd, 1) := by decide +kernel
theorem dL_law_2331 : decode cL_law 2331 = .ok (.iaload, 1) := by decide +kernel
theorem dL_law_2332 : decode cL_law 2332 = .ok (.invokevirtual 267, 3) := by decide +kernel
theorem dL_law_2335 : decode cL_law 2335 = .ok (.istore 6, 2) := by decide +kernel
theorem dL_law_2337 : decode cL_law 2337 = .ok (.aload_n 2, 1) := by decide +kernel
theorem dL_law_2338 : decode cL_law 2338 = .ok (.invokevirtual 139, 3) := by decide +kernel
theorem dL_law_2341 : decode cL_law 2341 = .ok (.iload 5, 2) := by decide +kernel
theorem dL_law_2343 : decode cL_law 2343 = .ok (.if_icmp .eq 5, 3) := by decide +kernel
theorem dL_law_2346 : decode cL_law 2346 = .ok (.iconst 0, 1) := by decide +kernel
theorem dL_law_2347 : decode cL_law 2347 = .ok (.ireturn, 1) := by decide +kernel
theorem dL_law_2348 : decode cL_law 2348 = .ok (.iload 5, 2) := by decide +kernel
theorem dL_law_2350 : decode cL_law 2350 = .ok (.ifCond .ne 15, 3) := by decide +kernel
theorem dL_law_2353 : decode cL_law 2353 = .ok (.aload_n 3, 1) := by decide +kernel
theorem dL_law_2354 : decode cL_law 2354 = .ok (.iconst 0, 1) := by decide +kernel
theorem dL_law_2355 : decode cL_law 2355 = .ok (.laload, 1) := by decide +kernel
theorem dL_law_2356 : decode cL_law 2356 = .ok (.iload 6, 2) := by decide +kernel
theorem dL_law_2358 : decode cL_law 2358 = .ok (.i2l, 1) := by decide +kernel
theorem dL_law_2359 : decode cL_law 2359 = .ok (.lcmp, 1) := by decide +kernel
theorem dL_law_2360 : decode cL_law 2360 = .ok (.ifCond .eq 5, 3) := by decide +kernel
theorem dL_law_2363 : decode cL_law 2363 = .ok (.iconst 0, 1) := by decide +kernel
theorem dL_law_2364 : decode cL_law 2364 = .ok (.ireturn, 1) := by decide +kernel
theorem dL_law_2365 : decode cL_law 2365 = .ok (.goto 301, 3) := by decide +kernel
theorem dL_law_2368 : decode cL_law 2368 = .ok (.aload_n 1, 1) := by decide +kernel
theorem dL_law_2369 : decode cL_law 2369 = .ok (.aload_n 0, 1) := by decide +kernel
theorem dL_law_2370 : decode cL_law 2370 = .ok (.iload 4, 2) := by decide +kernel
theorem dL_law_2372 : decode cL_law 2372 = .ok (.iconst 1, 1) := by decide +kernel
theorem dL_law_2373 : decode cL_law 2373 = .ok (.iadd, 1) := by decide +kernel
theorem dL_law_2374 : decode cL_law 2374 = .ok (.iaload, 1) := by decide +kernel
theorem dL_law_2375 : decode cL_law 2375 = .ok (.aload_n 0, 1) := by decide +kernel
theorem dL_law_2376 : decode cL_law 2376 = .ok (.iload 4, 2) := by decide +kernel
theorem dL_law_2378 : decode cL_law 2378 = .ok (.iconst 2, 1) := by decide +kernel
theorem dL_law_2379 : decode cL_law 2379 = .ok (.iadd, 1) := by decide +kernel
theorem dL_law_2380 : decode cL_law 2380 = .ok (.iaload, 1) := by decide +kernel
theorem dL_law_2381 : decode cL_law 2381 = .ok (.aload_n 0, 1) := by decide +kernel
theorem dL_law_2382 : decode cL_law 2382 = .ok (.iload 4, 2) := by decide +kernel
theorem dL_law_2384 : decode cL_law 2384 = .ok (.iconst 3, 1) := by decide +kernel
theorem dL_law_2385 : decode cL_law 2385 = .ok (.iadd, 1) := by decide +kernel
theorem dL_law_2386 : decode cL_law 2386 = .ok (.iaload, 1) := by decide +kernel
theorem dL_law_2387 : decode cL_law 2387 = .ok (.ifCond .eq 7, 3) := by decide +kernel
theorem dL_law_2390 : decode cL_law 2390 = .ok (.iconst 1, 1) := by decide +kernel
theorem dL_law_2391 : decode cL_law 2391 = .ok (.goto 4, 3) := by decide +kernel
theorem dL_law_2394 : decode cL_law 2394 = .ok (.iconst 0, 1) := by decide +kernel
theorem dL_law_2395 : decode cL_law 2395 = .ok (.aload_n 3, 1) := by decide +kernel
theorem dL_law_2396 : decode cL_law 2396 = .ok (.invokestatic 268, 3) := by decide +kernel
theorem dL_law_2399 : decode cL_law 2399 = .ok (.istore 5, 2) := by decide +kernel
theorem dL_law_2401 : decode cL_law 2401 = .ok (.aload_n 2, 1) := by decide +kernel
theorem dL_law_2402 : decode cL_law 2402 = .ok (.aload_n 0, 1) := by decide +kernel
theorem dL_law_2403 : decode cL_law 2403 = .ok (.iload 4, 2) := by decide +kernel
theorem dL_law_2405 : decode cL_law 2405 = .ok (.iconst 1, 1) := by decide +kernel
theorem dL_law_2406 : decode cL_law 2406 = .ok (.iadd, 1) := by decide +kernel
theorem dL_law_2407 : decode cL_law 2407 = .ok (.iaload, 1) := by decide +kernel
theorem dL_law_2408 : decode cL_law 2408 = .ok (.aload_n 0, 1) := by decide +kernel
theorem dL_law_2409 : decode cL_law 2409 = .ok (.iload 4, 2) := by decide +kernel
theorem dL_law_2411 : decode cL_law 2411 = .ok (.iconst 2, 1) := by decide +kernel
theorem dL_law_2412 : decode cL_law 2412 = .ok (.iadd, 1) := by decide +kernel
theorem dL_law_2413 : decode cL_law 2413 = .ok (.iaload, 1) := by decide +kernel
theorem dL_law_2414 : decode cL_law 2414 = .ok (.aload_n 0, 1) := by decide +kernel
theorem dL_law_2415 : decode cL_law 2415 = .ok (.iload 4, 2) := by decide +kernel
theorem dL_law_2417 : decode cL_law 2417 = .ok (.iconst 3, 1) := by decide +kernel
theorem dL_law_2418 : decode cL_law 2418 = .ok (.iadd, 1) := by decide +kernel
theorem dL_law_2419 : decode cL_law 2419 = .ok (.iaload, 1) := by decide +kernel
theorem dL_law_2420 : decode cL_law 2420 = .ok (.ifCond .eq 7, 3) := by decide +kernel
theorem dL_law_2423 : decode cL_law 2423 = .ok (.iconst 1, 1) := by decide +kernel
theorem dL_law_2424 : decode cL_law 2424 = .ok (.goto 4, 3) := by decide +kernel
theorem dL_law_2427 : decode cL_law 2427 = .ok (.iconst 0, 1) := by decide +kernel
theorem dL_law_2428 : decode cL_law 2428 = .ok (.invokevirtual 271, 3) := by decide +kernel
theorem dL_law_2431 : decode cL_law 2431 = .ok (.istore 6, 2) := by decide +kernel
theorem dL_law_2433 : decode cL_law 2433 = .ok (.aload_n 2, 1) := by decide +kernel
theorem dL_law_2434 : decode cL_law 2434 = .ok (.invokevirtual 139, 3) := by decide +kernel
theorem dL_law_2437 : decode cL_law 2437 = .ok (.iload 5, 2) := by decide +kernel
theorem dL_law_2439 : decode cL_law 2439 = .ok (.if_icmp .eq 5, 3) := by decide +kernel
theorem dL_law_2442 : decode cL_law 2442 = .ok (.iconst 0, 1) := by decide +kernel
theorem dL_law_2443 : decode cL_law 2443 = .ok (.ireturn, 1) := by decide +kernel
theorem dL_law_2444 : decode cL_law 2444 = .ok (.iload 5, 2) := by decide +kernel
theorem dL_law_2446 : decode cL_law 2446 = .ok (.ifCond .ne 22, 3) := by decide +kernel
theorem dL_law_2449 : decode cL_law 2449 = .ok (.aload_n 3, 1) := by decide +kernel
theorem dL_law_2450 : decode cL_law 2450 = .ok (.iconst 0, 1) := by decide +kernel
theorem dL_law_2451 : decode cL_law 2451 = .ok (.laload, 1) := by decide +kernel
theorem dL_law_2452 : decode cL_law 2452 = .ok (.iload 6, 2) := by decide +kernel
theorem dL_law_2454 : decode cL_law 2454 = .ok (.ifCond .eq 7, 3) := by decide +kernel
theorem dL_law_2457 : decode cL_law 2457 = .ok (.lconst 1, 1) := by decide +kernel
theorem dL_law_2458 : decode cL_law 2458 = .ok (.goto 4, 3) := by decide +kernel
theorem dL_law_2461 : decode cL_law 2461 = .ok (.lconst 0, 1) := by decide +kernel
theorem dL_law_2462 : decode cL_law 2462 = .ok (.lcmp, 1) := by decide +kernel
theorem dL_law_2463 : decode cL_law 2463 = .ok (.ifCond .eq 5, 3) := by decide +kernel
theorem dL_law_2466 : decode cL_law 2466 = .ok (.iconst 0, 1) := by decide +kernel
theorem dL_law_2467 : decode cL_law 2467 = .ok (.ireturn, 1) := by decide +kernel
theorem dL_law_2468 : decode cL_law 2468 = .ok (.goto 198, 3) := by decide +kernel
theorem dL_law_2471 : decode cL_law 2471 = .ok (.aload_n 1, 1) := by decide +kernel
theorem dL_law_2472 : decode cL_law 2472 = .ok (.aload_n 0, 1) := by decide +kernel
theorem dL_law_2473 : decode cL_law 2473 = .ok (.iload 4, 2) := by decide +kernel
theorem dL_law_2475 : decode cL_law 2475 = .ok (.iconst 1, 1) := by decide +kernel
theorem dL_law_2476 : decode cL_law 2476 = .ok (.iadd, 1) := by decide +kernel
theorem dL_law_2477 : decode cL_law 2477 = .ok (.iaload, 1) := by decide +kernel
theorem dL_law_2478 : decode cL_law 2478 = .ok (.aload_n 3, 1) := by decide +kernel
theorem dL_law_2479 : decode cL_law 2479 = .ok (.invokestatic 272, 3) := by decide +kernel
theorem dL_law_2482 : decode cL_law 2482 = .ok (.istore 5, 2) := by decide +kernel
theorem dL_law_2484 : decode cL_law 2484 = .ok (.aload_n 2, 1) := by decide +kernel
theorem dL_law_2485 : decode cL_law 2485 = .ok (.aload_n 0, 1) := by decide +kernel
theorem dL_law_2486 : decode cL_law 2486 = .ok (.iload 4, 2) := by decide +kernel
theorem dL_law_2488 : decode cL_law 2488 = .ok (.iconst 1, 1) := by decide +kernel
theorem dL_law_2489 : decode cL_law 2489 = .ok (.iadd, 1) := by decide +kernel
theorem dL_law_2490 : decode cL_law 2490 = .ok (.iaload, 1) := by decide +kernel
theorem dL_law_2491 : decode cL_law 2491 = .ok (.invokevirtual 274, 3) := by decide +kernel
theorem dL_law_2494 : decode cL_law 2494 = .ok (.istore 6, 2) := by decide +kernel
theorem dL_law_2496 : decode cL_law 2496 = .ok (.aload_n 2, 1) := by decide +kernel
theorem dL_law_2497 : decode cL_law 2497 = .ok (.invokevirtual 139, 3) := by decide +kernel
theorem dL_law_2500 : decode cL_law 2500 = .ok (.iload 5, 2) := by decide +kernel
theorem dL_law_2502 : decode cL_law 2502 = .ok (.if_icmp .eq 5, 3) := by decide +kernel
theorem dL_law_2505 : decode cL_law 2505 = .ok (.iconst 0, 1) := by decide +kernel
theorem dL_law_2506 : decode cL_law 2506 = .ok (.ireturn, 1) := by decide +kernel
theorem dL_law_2507 : decode cL_law 2507 = .ok (.iload 5, 2) := by decide +kernel
theorem dL_law_2509 : decode cL_law 2509 = .ok (.ifCond .ne 15, 3) := by decide +kernel
theorem dL_law_2512 : decode cL_law 2512 = .ok (.aload_n 3, 1) := by decide +kernel
theorem dL_law_2513 : decode cL_law 2513 = .ok (.iconst 0, 1) := by decide +kernel
theorem dL_law_2514 : decode cL_law 2514 = .ok (.laload, 1) := by decide +kernel
theorem dL_law_2515 : decode cL_law 2515 = .ok (.iload 6, 2) := by decide +kernel
theorem dL_law_2517 : decode cL_law 2517 = .ok (.i2l, 1) := by decide +kernel
theorem dL_law_2518 : decode cL_law 2518 = .ok (.lcmp, 1) := by decide +kernel
theorem dL_law_2519 : decode cL_law 2519 = .ok (.ifCond .eq 5, 3) := by decide +kernel
theorem dL_law_2522 : decode cL_law 2522 = .ok (.iconst 0, 1) := by decide +kernel
theorem dL_law_2523 : decode cL_law 2523 = .ok (.ireturn, 1) := by decide +kernel
theorem dL_law_2524 : decode cL_law 2524 = .ok (.goto 142, 3) := by decide +kernel
theorem dL_law_2527 : decode cL_law 2527 = .ok (.aload_n 1, 1) := by decide +kernel
theorem dL_law_2528 : decode cL_law 2528 = .ok (.invokevirtual 275, 3) := by decide +kernel
theorem dL_law_2531 : decode cL_law 2531 = .ok (.aload_n 2, 1) := by decide +kernel
theorem dL_law_2532 : decode cL_law 2532 = .ok (.invokevirtual 278, 3) := by decide +kernel
theorem dL_law_2535 : decode cL_law 2535 = .ok (.if_icmp .eq 131, 3) := by decide +kernel
theorem dL_law_2538 : decode cL_law 2538 = .ok (.iconst 0, 1) := by decide +kernel
theorem dL_law_2539 : decode cL_law 2539 = .ok (.ireturn, 1) := by decide +kernel
theorem dL_law_2540 : decode cL_law 2540 = .ok (.aload_n 1, 1) := by decide +kernel
theorem dL_law_2541 : decode cL_law 2541 = .ok (.aload_n 0, 1) := by decide +kernel
theorem dL_law_2542 : decode cL_law 2542 = .ok (.iload 4, 2) := by decide +kernel
theorem dL_law_2544 : decode cL_law 2544 = .ok (.iconst 1, 1) := by decide +kernel
theorem dL_law_2545 : decode cL_law 2545 = .ok (.iadd, 1) := by decide +kernel
theorem dL_law_2546 : decode cL_law 2546 = .ok (.iaload, 1) := by decide +kernel
theorem dL_law_2547 : decode cL_law 2547 = .ok (.aload_n 3, 1) := by decide +kernel
theorem dL_law_2548 : decode cL_law 2548 = .ok (.invokestatic 279, 3) := by decide +kernel
theorem dL_law_2551 : decode cL_law 2551 = .ok (.istore 5, 2) := by decide +kernel
theorem dL_law_2553 : decode cL_law 2553 = .ok (.aload_n 2, 1) := by decide +kernel
theorem dL_law_2554 : decode cL_law 2554 = .ok (.aload_n 0, 1) := by decide +kernel
theorem dL_law_2555 : decode cL_law 2555 = .ok (.iload 4, 2) := by decide +kernel
theorem dL_law_2557 : decode cL_law 2557 = .ok (.iconst 1, 1) := by decide +kernel
theorem dL_law_2558 : decode cL_law 2558 = .ok (.iadd, 1) := by decide +kernel
theorem dL_law_2559 : decode cL_law 2559 = .ok (.iaload, 1) := by decide +kernel
theorem dL_law_2560 : decode cL_law 2560 = .ok (.invokevirtual 281, 3) := by decide +kernel
theorem dL_law_2563 : decode cL_law 2563 = .ok (.istore 6, 2) := by decide +kernel
theorem dL_law_2565 : decode cL_law 2565 = .ok (.aload_n 2, 1) := by decide +kernel
theorem dL_law_2566 : decode cL_law 2566 = .ok (.invokevirtual 139, 3) := by decide +kernel
theorem dL_law_2569 : decode cL_law 2569 = .ok (.iload 5, 2) := by decide +kernel
theorem dL_law_2571 : decode cL_law 2571 = .ok (.if_icmp .eq 5, 3) := by decide +kernel
theorem dL_law_2574 : decode cL_law 2574 = .ok (.iconst 0, 1) := by decide +kernel
theorem dL_law_2575 : decode cL_law 2575 = .ok (.ireturn, 1) := by decide +kernel
theorem dL_law_2576 : decode cL_law 2576 = .ok (.iload 5, 2) := by decide +kernel
theorem dL_law_2578 : decode cL_law 2578 = .ok (.ifCond .ne 15, 3) := by decide +kernel
theorem dL_law_2581 : decode cL_law 2581 = .ok (.aload_n 3, 1) := by decide +kernel
theorem dL_law_2582 : decode cL_law 2582 = .ok (.iconst 0, 1) := by decide +kernel
theorem dL_law_2583 : decode cL_law 2583 = .ok (.laload, 1) := by decide +kernel
theorem dL_law_2584 : decode cL_law 2584 = .ok (.iload 6, 2) := by decide +kernel
theorem dL_law_2586 : decode cL_law 2586 = .ok (.i2l, 1) := by decide +kernel
theorem dL_law_2587 : decode cL_law 2587 = .ok (.lcmp, 1) := by decide +kernel
theorem dL_law_2588 : decode cL_law 2588 = .ok (.ifCond .eq 5, 3) := by decide +kernel
theorem dL_law_2591 : decode cL_law 2591 = .ok (.iconst 0, 1) := by decide +kernel
theorem dL_law_2592 : decode cL_law 2592 = .ok (.ireturn, 1) := by decide +kernel
theorem dL_law_2593 : decode cL_law 2593 = .ok (.goto 73, 3) := by decide +kernel
theorem dL_law_2596 : decode cL_law 2596 = .ok (.aload_n 1, 1) := by decide +kernel
theorem dL_law_2597 : decode cL_law 2597 = .ok (.invokevirtual 282, 3) := by decide +kernel
theorem dL_law_2600 : decode cL_law 2600 = .ok (.aload_n 2, 1) := by decide +kernel
theorem dL_law_2601 : decode cL_law 2601 = .ok (.invokevirtual 285, 3) := by decide +kernel
theorem dL_law_2604 : decode cL_law 2604 = .ok (.if_icmp .eq 62, 3) := by decide +kernel
theorem dL_law_2607 : decode cL_law 2607 = .ok (.iconst 0, 1) := by decide +kernel
theorem dL_law_2608 : decode cL_law 2608 = .ok (.ireturn, 1) := by decide +kernel
theorem dL_law_2609 : decode cL_law 2609 = .ok (.aload_n 1, 1) := by decide +kernel
theorem dL_law_2610 : decode cL_law 2610 = .ok (.invokevirtual 286, 3) := by decide +kernel
theorem dL_law_2613 : decode cL_law 2613 = .ok (.aload_n 2, 1) := by decide +kernel
theorem dL_law_2614 : decode cL_law 2614 = .ok (.invokevirtual 289, 3) := by decide +kernel
theorem dL_law_2617 : decode cL_law 2617 = .ok (.if_icmp .eq 49, 3) := by decide +kernel
theorem dL_law_2620 : decode cL_law 2620 = .ok (.iconst 0, 1) := by decide +kernel
theorem dL_law_2621 : decode cL_law 2621 = .ok (.ireturn, 1) := by decide +kernel
theorem dL_law_2622 : decode cL_law 2622 = .ok (.aload_n 1, 1) := by decide +kernel
theorem dL_law_2623 : decode cL_law 2623 = .ok (.aload_n 3, 1) := by decide +kernel
theorem dL_law_2624 : decode cL_law 2624 = .ok (.invokestatic 290, 3) := by decide +kernel
theorem dL_law_2627 : decode cL_law 2627 = .ok (.istore 5, 2) := by decide +kernel
theorem dL_law_2629 : decode cL_law 2629 = .ok (.aload_n 2, 1) := by decide +kernel
theorem dL_law_2630 : decode cL_law 2630 = .ok (.invokevirtual 292, 3) := by decide +kernel
theorem dL_law_2633 : decode cL_law 2633 = .ok (.istore 6, 2) := by decide +kernel
theorem dL_law_2635 : decode cL_law 2635 = .ok (.aload_n 2, 1) := by decide +kernel
theorem dL_law_2636 : decode cL_law 2636 = .ok (.invokevirtual 139, 3) := by decide +kernel
theorem dL_law_2639 : decode cL_law 2639 = .ok (.iload 5, 2) := by decide +kernel
theorem dL_law_2641 : decode cL_law 2641 = .ok (.if_icmp .eq 5, 3) := by decide +kernel
theorem dL_law_2644 : decode cL_law 2644 = .ok (.iconst 0, 1) := by decide +kernel
theorem dL_law_2645 : decode cL_law 2645 = .ok (.ireturn, 1) := by decide +kernel
theorem dL_law_2646 : decode cL_law 2646 = .ok (.iload 5, 2) := by decide +kernel
theorem dL_law_2648 : decode cL_law 2648 = .ok (.ifCond .ne 15, 3) := by decide +kernel
theorem dL_law_2651 : decode cL_law 2651 = .ok (.aload_n 3, 1) := by decide +kernel
theorem dL_law_2652 : decode cL_law 2652 = .ok (.iconst 0, 1) := by decide +kernel
theorem dL_law_2653 : decode cL_law 2653 = .ok (.laload, 1) := by decide +kernel
theorem dL_law_2654 : decode cL_law 2654 = .ok (.iload 6, 2) := by decide +kernel
theorem dL_law_2656 : decode cL_law 2656 = .ok (.i2l, 1) := by decide +kernel
theorem dL_law_2657 : decode cL_law 2657 = .ok (.lcmp, 1) := by decide +kernel
theorem dL_law_2658 : decode cL_law 2658 = .ok (.ifCond .eq 5, 3) := by decide +kernel
theorem dL_law_2661 : decode cL_law 2661 = .ok (.iconst 0, 1) := by decide +kernel
theorem dL_law_2662 : decode cL_law 2662 = .ok (.ireturn, 1) := by decide +kernel
theorem dL_law_2663 : decode cL_law 2663 = .ok (.goto 3, 3) := by decide +kernel
theorem dL_law_2666 : decode cL_law 2666 = .ok (.iinc 4 6, 3) := by decide +kernel
theorem dL_law_2669 : decode cL_law 2669 = .ok (.goto (-2646), 3) := by decide +kernel
theorem dL_law_2672 : decode cL_law 2672 = .ok (.iconst 1, 1) := by decide +kernel
theorem dL_law_2673 : decode cL_law 2673 = .ok (.ireturn, 1) := by decide +kernel
