theorem dJ0_length_8abf5_0 : decode cJ0_length_8abf5 0 = .ok (.aload_n 0, 1) := by decide +kernel
theorem dJ0_length_8abf5_1 : decode cJ0_length_8abf5 1 = .ok (.getfield 9, 3) := by decide +kernel
theorem dJ0_length_8abf5_4 : decode cJ0_length_8abf5 4 = .ok (.arraylength, 1) := by decide +kernel
theorem dJ0_length_8abf5_5 : decode cJ0_length_8abf5 5 = .ok (.aload_n 0, 1) := by decide +kernel
theorem dJ0_length_8abf5_6 : decode cJ0_length_8abf5 6 = .ok (.invokevirtual 335, 3) := by decide +kernel
theorem dJ0_length_8abf5_9 : decode cJ0_length_8abf5 9 = .ok (.ishr, 1) := by decide +kernel
theorem dJ0_length_8abf5_10 : decode cJ0_length_8abf5 10 = .ok (.ireturn, 1) := by decide +kernel
theorem dJ0_coder_7d493_0 : decode cJ0_coder_7d493 0 = .ok (.getstatic 38, 3) := by decide +kernel
theorem dJ0_coder_7d493_3 : decode cJ0_coder_7d493 3 = .ok (.ifCond .eq 10, 3) := by decide +kernel
theorem dJ0_coder_7d493_6 : decode cJ0_coder_7d493 6 = .ok (.aload_n 0, 1) := by decide +kernel
theorem dJ0_coder_7d493_7 : decode cJ0_coder_7d493 7 = .ok (.getfield 15, 3) := by decide +kernel
theorem dJ0_coder_7d493_10 : decode cJ0_coder_7d493 10 = .ok (.goto 4, 3) := by decide +kernel
theorem dJ0_coder_7d493_13 : decode cJ0_coder_7d493 13 = .ok (.iconst 1, 1) := by decide +kernel
theorem dJ0_coder_7d493_14 : decode cJ0_coder_7d493 14 = .ok (.ireturn, 1) := by decide +kernel
theorem dJ0_isLatin1_aae02_0 : decode cJ0_isLatin1_aae02 0 = .ok (.getstatic 38, 3) := by decide +kernel
theorem dJ0_isLatin1_aae02_3 : decode cJ0_isLatin1_aae02 3 = .ok (.ifCond .eq 14, 3) := by decide +kernel
theorem dJ0_isLatin1_aae02_6 : decode cJ0_isLatin1_aae02 6 = .ok (.aload_n 0, 1) := by decide +kernel
theorem dJ0_isLatin1_aae02_7 : decode cJ0_isLatin1_aae02 7 = .ok (.getfield 15, 3) := by decide +kernel
theorem dJ0_isLatin1_aae02_10 : decode cJ0_isLatin1_aae02 10 = .ok (.ifCond .ne 7, 3) := by decide +kernel
theorem dJ0_isLatin1_aae02_13 : decode cJ0_isLatin1_aae02 13 = .ok (.iconst 1, 1) := by decide +kernel
theorem dJ0_isLatin1_aae02_14 : decode cJ0_isLatin1_aae02 14 = .ok (.goto 4, 3) := by decide +kernel
theorem dJ0_isLatin1_aae02_17 : decode cJ0_isLatin1_aae02 17 = .ok (.iconst 0, 1) := by decide +kernel
theorem dJ0_isLatin1_aae02_18 : decode cJ0_isLatin1_aae02 18 = .ok (.ireturn, 1) := by decide +kernel
theorem dJ0_charAt_5068e_0 : decode cJ0_charAt_5068e 0 = .ok (.aload_n 0, 1) := by decide +kernel
theorem dJ0_charAt_5068e_1 : decode cJ0_charAt_5068e 1 = .ok (.invokevirtual 492, 3) := by decide +kernel
theorem dJ0_charAt_5068e_4 : decode cJ0_charAt_5068e 4 = .ok (.ifCond .eq 12, 3) := by decide +kernel
theorem dJ0_charAt_5068e_7 : decode cJ0_charAt_5068e 7 = .ok (.aload_n 0, 1) := by decide +kernel
theorem dJ0_charAt_5068e_8 : decode cJ0_charAt_5068e 8 = .ok (.getfield 9, 3) := by decide +kernel
theorem dJ0_charAt_5068e_11 : decode cJ0_charAt_5068e 11 = .ok (.iload_n 1, 1) := by decide +kernel
theorem dJ0_charAt_5068e_12 : decode cJ0_charAt_5068e 12 = .ok (.invokestatic 495, 3) := by decide +kernel
theorem dJ0_charAt_5068e_15 : decode cJ0_charAt_5068e 15 = .ok (.ireturn, 1) := by decide +kernel
theorem dJ0_charAt_5068e_16 : decode cJ0_charAt_5068e 16 = .ok (.aload_n 0, 1) := by decide +kernel
theorem dJ0_charAt_5068e_17 : decode cJ0_charAt_5068e 17 = .ok (.getfield 9, 3) := by decide +kernel
theorem dJ0_charAt_5068e_20 : decode cJ0_charAt_5068e 20 = .ok (.iload_n 1, 1) := by decide +kernel
theorem dJ0_charAt_5068e_21 : decode cJ0_charAt_5068e 21 = .ok (.invokestatic 498, 3) := by decide +kernel
theorem dJ0_charAt_5068e_24 : decode cJ0_charAt_5068e 24 = .ok (.ireturn, 1) := by decide +kernel
theorem dJ0_checkIndex_df160_0 : decode cJ0_checkIndex_df160 0 = .ok (.iload_n 0, 1) := by decide +kernel
theorem dJ0_checkIndex_df160_1 : decode cJ0_checkIndex_df160 1 = .ok (.iload_n 1, 1) := by decide +kernel
theorem dJ0_checkIndex_df160_2 : decode cJ0_checkIndex_df160 2 = .ok (.getstatic 1053, 3) := by decide +kernel
theorem dJ0_checkIndex_df160_5 : decode cJ0_checkIndex_df160 5 = .ok (.invokestatic 1059, 3) := by decide +kernel
theorem dJ0_checkIndex_df160_8 : decode cJ0_checkIndex_df160 8 = .ok (.pop, 1) := by decide +kernel
theorem dJ0_checkIndex_df160_9 : decode cJ0_checkIndex_df160 9 = .ok (.return_, 1) := by decide +kernel
theorem dJ1_charAt_3b067_0 : decode cJ1_charAt_3b067 0 = .ok (.iload_n 1, 1) := by decide +kernel
theorem dJ1_charAt_3b067_1 : decode cJ1_charAt_3b067 1 = .ok (.aload_n 0, 1) := by decide +kernel
theorem dJ1_charAt_3b067_2 : decode cJ1_charAt_3b067 2 = .ok (.arraylength, 1) := by decide +kernel
theorem dJ1_charAt_3b067_3 : decode cJ1_charAt_3b067 3 = .ok (.invokestatic 9, 3) := by decide +kernel
theorem dJ1_charAt_3b067_6 : decode cJ1_charAt_3b067 6 = .ok (.aload_n 0, 1) := by decide +kernel
theorem dJ1_charAt_3b067_7 : decode cJ1_charAt_3b067 7 = .ok (.iload_n 1, 1) := by decide +kernel
theorem dJ1_charAt_3b067_8 : decode cJ1_charAt_3b067 8 = .ok (.baload, 1) := by decide +kernel
theorem dJ1_charAt_3b067_9 : decode cJ1_charAt_3b067 9 = .ok (.sipush 255, 3) := by decide +kernel
theorem dJ1_charAt_3b067_12 : decode cJ1_charAt_3b067 12 = .ok (.iand, 1) := by decide +kernel
theorem dJ1_charAt_3b067_13 : decode cJ1_charAt_3b067 13 = .ok (.i2c, 1) := by decide +kernel
theorem dJ1_charAt_3b067_14 : decode cJ1_charAt_3b067 14 = .ok (.ireturn, 1) := by decide +kernel
theorem dJ3_checkIndex_8e157_0 : decode cJ3_checkIndex_8e157 0 = .ok (.iload_n 0, 1) := by decide +kernel
theorem dJ3_checkIndex_8e157_1 : decode cJ3_checkIndex_8e157 1 = .ok (.ifCond .lt 8, 3) := by decide +kernel
theorem dJ3_checkIndex_8e157_4 : decode cJ3_checkIndex_8e157 4 = .ok (.iload_n 0, 1) := by decide +kernel
theorem dJ3_checkIndex_8e157_5 : decode cJ3_checkIndex_8e157 5 = .ok (.iload_n 1, 1) := by decide +kernel
theorem dJ3_checkIndex_8e157_6 : decode cJ3_checkIndex_8e157 6 = .ok (.if_icmp .lt 10, 3) := by decide +kernel
theorem dJ3_checkIndex_8e157_9 : decode cJ3_checkIndex_8e157 9 = .ok (.aload_n 2, 1) := by decide +kernel
theorem dJ3_checkIndex_8e157_10 : decode cJ3_checkIndex_8e157 10 = .ok (.iload_n 0, 1) := by decide +kernel
theorem dJ3_checkIndex_8e157_11 : decode cJ3_checkIndex_8e157 11 = .ok (.iload_n 1, 1) := by decide +kernel
theorem dJ3_checkIndex_8e157_12 : decode cJ3_checkIndex_8e157 12 = .ok (.invokestatic 95, 3) := by decide +kernel
theorem dJ3_checkIndex_8e157_15 : decode cJ3_checkIndex_8e157 15 = .ok (.athrow, 1) := by decide +kernel
theorem dJ3_checkIndex_8e157_16 : decode cJ3_checkIndex_8e157 16 = .ok (.iload_n 0, 1) := by decide +kernel
theorem dJ3_checkIndex_8e157_17 : decode cJ3_checkIndex_8e157 17 = .ok (.ireturn, 1) := by decide +kernel
theorem dX0_fallAsleep_0 : decode cX0_fallAsleep 0 = .ok (.aload_n 0, 1) := by decide +kernel
theorem dX0_fallAsleep_1 : decode cX0_fallAsleep 1 = .ok (.iconst 0, 1) := by decide +kernel
theorem dX0_fallAsleep_2 : decode cX0_fallAsleep 2 = .ok (.putfield 63, 3) := by decide +kernel
theorem dX0_fallAsleep_5 : decode cX0_fallAsleep 5 = .ok (.aload_n 0, 1) := by decide +kernel
theorem dX0_fallAsleep_6 : decode cX0_fallAsleep 6 = .ok (.iconst 0, 1) := by decide +kernel
theorem dX0_fallAsleep_7 : decode cX0_fallAsleep 7 = .ok (.putfield 66, 3) := by decide +kernel
theorem dX0_fallAsleep_10 : decode cX0_fallAsleep 10 = .ok (.aload_n 0, 1) := by decide +kernel
theorem dX0_fallAsleep_11 : decode cX0_fallAsleep 11 = .ok (.iconst 0, 1) := by decide +kernel
theorem dX0_fallAsleep_12 : decode cX0_fallAsleep 12 = .ok (.putfield 69, 3) := by decide +kernel
theorem dX0_fallAsleep_15 : decode cX0_fallAsleep 15 = .ok (.return_, 1) := by decide +kernel
theorem dX0_begin_0 : decode cX0_begin 0 = .ok (.aload_n 0, 1) := by decide +kernel
theorem dX0_begin_1 : decode cX0_begin 1 = .ok (.lload_n 1, 1) := by decide +kernel
theorem dX0_begin_2 : decode cX0_begin 2 = .ok (.putfield 24, 3) := by decide +kernel
theorem dX0_begin_5 : decode cX0_begin 5 = .ok (.aload_n 0, 1) := by decide +kernel
theorem dX0_begin_6 : decode cX0_begin 6 = .ok (.iconst 2, 1) := by decide +kernel
theorem dX0_begin_7 : decode cX0_begin 7 = .ok (.putfield 28, 3) := by decide +kernel
theorem dX0_begin_10 : decode cX0_begin 10 = .ok (.aload_n 0, 1) := by decide +kernel
theorem dX0_begin_11 : decode cX0_begin 11 = .ok (.iconst 0, 1) := by decide +kernel
theorem dX0_begin_12 : decode cX0_begin 12 = .ok (.putfield 32, 3) := by decide +kernel
theorem dX0_begin_15 : decode cX0_begin 15 = .ok (.aload_n 0, 1) := by decide +kernel
theorem dX0_begin_16 : decode cX0_begin 16 = .ok (.iconst 0, 1) := by decide +kernel
theorem dX0_begin_17 : decode cX0_begin 17 = .ok (.putfield 35, 3) := by decide +kernel
theorem dX0_begin_20 : decode cX0_begin 20 = .ok (.aload_n 0, 1) := by decide +kernel
theorem dX0_begin_21 : decode cX0_begin 21 = .ok (.iconst 0, 1) := by decide +kernel
theorem dX0_begin_22 : decode cX0_begin 22 = .ok (.putfield 38, 3) := by decide +kernel
theorem dX0_begin_25 : decode cX0_begin 25 = .ok (.aload_n 0, 1) := by decide +kernel
theorem dX0_begin_26 : decode cX0_begin 26 = .ok (.iconst 0, 1) := by decide +kernel
theorem dX0_begin_27 : decode cX0_begin 27 = .ok (.putfield 41, 3) := by decide +kernel
theorem dX0_begin_30 : decode cX0_begin 30 = .ok (.aload_n 0, 1) := by decide +kernel
theorem dX0_begin_31 : decode cX0_begin 31 = .ok (.iconst 0, 1) := by decide +kernel
theorem dX0_begin_32 : decode cX0_begin 32 = .ok (.putfield 44, 3) := by decide +kernel
theorem dX0_begin_35 : decode cX0_begin 35 = .ok (.aload_n 0, 1) := by decide +kernel
theorem dX0_begin_36 : decode cX0_begin 36 = .ok (.iconst 0, 1) := by decide +kernel
theorem dX0_begin_37 : decode cX0_begin 37 = .ok (.putfield 48, 3) := by decide +kernel
theorem dX0_begin_40 : decode cX0_begin 40 = .ok (.aload_n 0, 1) := by decide +kernel
theorem dX0_begin_41 : decode cX0_begin 41 = .ok (.iconst 0, 1) := by decide +kernel
theorem dX0_begin_42 : decode cX0_begin 42 = .ok (.putfield 51, 3) := by decide +kernel
theorem dX0_begin_45 : decode cX0_begin 45 = .ok (.aload_n 0, 1) := by decide +kernel
theorem dX0_begin_46 : decode cX0_begin 46 = .ok (.iconst 0, 1) := by decide +kernel
theorem dX0_begin_47 : decode cX0_begin 47 = .ok (.putfield 54, 3) := by decide +kernel
theorem dX0_begin_50 : decode cX0_begin 50 = .ok (.aload_n 0, 1) := by decide +kernel
theorem dX0_begin_51 : decode cX0_begin 51 = .ok (.iconst 0, 1) := by decide +kernel
theorem dX0_begin_52 : decode cX0_begin 52 = .ok (.putfield 57, 3) := by decide +kernel
theorem dX0_begin_55 : decode cX0_begin 55 = .ok (.aload_n 0, 1) := by decide +kernel
theorem dX0_begin_56 : decode cX0_begin 56 = .ok (.invokevirtual 60, 3) := by decide +kernel
theorem dX0_begin_59 : decode cX0_begin 59 = .ok (.iconst 0, 1) := by decide +kernel
theorem dX0_begin_60 : decode cX0_begin 60 = .ok (.istore_n 3, 1) := by decide +kernel
theorem dX0_begin_61 : decode cX0_begin 61 = .ok (.iload_n 3, 1) := by decide +kernel
theorem dX0_begin_62 : decode cX0_begin 62 = .ok (.iconst 4, 1) := by decide +kernel
theorem dX0_begin_63 : decode cX0_begin 63 = .ok (.if_icmp .ge 16, 3) := by decide +kernel
theorem dX0_begin_66 : decode cX0_begin 66 = .ok (.aload_n 0, 1) := by decide +kernel
theorem dX0_begin_67 : decode cX0_begin 67 = .ok (.getfield 9, 3) := by decide +kernel
theorem dX0_begin_70 : decode cX0_begin 70 = .ok (.iload_n 3, 1) := by decide +kernel
theorem dX0_begin_71 : decode cX0_begin 71 = .ok (.iconst 0, 1) := by decide +kernel
theorem dX0_begin_72 : decode cX0_begin 72 = .ok (.iastore, 1) := by decide +kernel
theorem dX0_begin_73 : decode cX0_begin 73 = .ok (.iinc 3 1, 3) := by decide +kernel
theorem dX0_begin_76 : decode cX0_begin 76 = .ok (.goto (-15), 3) := by decide +kernel
theorem dX0_begin_79 : decode cX0_begin 79 = .ok (.iconst 0, 1) := by decide +kernel
theorem dX0_begin_80 : decode cX0_begin 80 = .ok (.istore_n 3, 1) := by decide +kernel
theorem dX0_begin_81 : decode cX0_begin 81 = .ok (.iload_n 3, 1) := by decide +kernel
theorem dX0_begin_82 : decode cX0_begin 82 = .ok (.bipush 8, 2) := by decide +kernel
theorem dX0_begin_84 : decode cX0_begin 84 = .ok (.if_icmp .ge 30, 3) := by decide +kernel
theorem dX0_begin_87 : decode cX0_begin 87 = .ok (.aload_n 0, 1) := by decide +kernel
theorem dX0_begin_88 : decode cX0_begin 88 = .ok (.getfield 15, 3) := by decide +kernel
theorem dX0_begin_91 : decode cX0_begin 91 = .ok (.iload_n 3, 1) := by decide +kernel
theorem dX0_begin_92 : decode cX0_begin 92 = .ok (.iconst (-1), 1) := by decide +kernel
theorem dX0_begin_93 : decode cX0_begin 93 = .ok (.iastore, 1) := by decide +kernel
theorem dX0_begin_94 : decode cX0_begin 94 = .ok (.aload_n 0, 1) := by decide +kernel
theorem dX0_begin_95 : decode cX0_begin 95 = .ok (.getfield 18, 3) := by decide +kernel
theorem dX0_begin_98 : decode cX0_begin 98 = .ok (.iload_n 3, 1) := by decide +kernel
theorem dX0_begin_99 : decode cX0_begin 99 = .ok (.iconst 0, 1) := by decide +kernel
theorem dX0_begin_100 : decode cX0_begin 100 = .ok (.iastore, 1) := by decide +kernel
theorem dX0_begin_101 : decode cX0_begin 101 = .ok (.aload_n 0, 1) := by decide +kernel
theorem dX0_begin_102 : decode cX0_begin 102 = .ok (.getfield 21, 3) := by decide +kernel
theorem dX0_begin_105 : decode cX0_begin 105 = .ok (.iload_n 3, 1) := by decide +kernel
theorem dX0_begin_106 : decode cX0_begin 106 = .ok (.iconst 5, 1) := by decide +kernel
theorem dX0_begin_107 : decode cX0_begin 107 = .ok (.iastore, 1) := by decide +kernel
theorem dX0_begin_108 : decode cX0_begin 108 = .ok (.iinc 3 1, 3) := by decide +kernel
theorem dX0_begin_111 : decode cX0_begin 111 = .ok (.goto (-30), 3) := by decide +kernel
theorem dX0_begin_114 : decode cX0_begin 114 = .ok (.return_, 1) := by decide +kernel
theorem dX0_copyFrom_0 : decode cX0_copyFrom 0 = .ok (.aload_n 0, 1) := by decide +kernel
theorem dX0_copyFrom_1 : decode cX0_copyFrom 1 = .ok (.aload_n 1, 1) := by decide +kernel
theorem dX0_copyFrom_2 : decode cX0_copyFrom 2 = .ok (.getfield 24, 3) := by decide +kernel
theorem dX0_copyFrom_5 : decode cX0_copyFrom 5 = .ok (.putfield 24, 3) := by decide +kernel
theorem dX0_copyFrom_8 : decode cX0_copyFrom 8 = .ok (.aload_n 0, 1) := by decide +kernel
theorem dX0_copyFrom_9 : decode cX0_copyFrom 9 = .ok (.aload_n 1, 1) := by decide +kernel
theorem dX0_copyFrom_10 : decode cX0_copyFrom 10 = .ok (.getfield 28, 3) := by decide +kernel
theorem dX0_copyFrom_13 : decode cX0_copyFrom 13 = .ok (.putfield 28, 3) := by decide +kernel
theorem dX0_copyFrom_16 : decode cX0_copyFrom 16 = .ok (.aload_n 0, 1) := by decide +kernel
theorem dX0_copyFrom_17 : decode cX0_copyFrom 17 = .ok (.aload_n 1, 1) := by decide +kernel
theorem dX0_copyFrom_18 : decode cX0_copyFrom 18 = .ok (.getfield 32, 3) := by decide +kernel
theorem dX0_copyFrom_21 : decode cX0_copyFrom 21 = .ok (.putfield 32, 3) := by decide +kernel
theorem dX0_copyFrom_24 : decode cX0_copyFrom 24 = .ok (.aload_n 0, 1) := by decide +kernel
theorem dX0_copyFrom_25 : decode cX0_copyFrom 25 = .ok (.aload_n 1, 1) := by decide +kernel
theorem dX0_copyFrom_26 : decode cX0_copyFrom 26 = .ok (.getfield 35, 3) := by decide +kernel
theorem dX0_copyFrom_29 : decode cX0_copyFrom 29 = .ok (.putfield 35, 3) := by decide +kernel
theorem dX0_copyFrom_32 : decode cX0_copyFrom 32 = .ok (.aload_n 0, 1) := by decide +kernel
theorem dX0_copyFrom_33 : decode cX0_copyFrom 33 = .ok (.aload_n 1, 1) := by decide +kernel
theorem dX0_copyFrom_34 : decode cX0_copyFrom 34 = .ok (.getfield 38, 3) := by decide +kernel
theorem dX0_copyFrom_37 : decode cX0_copyFrom 37 = .ok (.putfield 38, 3) := by decide +kernel
theorem dX0_copyFrom_40 : decode cX0_copyFrom 40 = .ok (.aload_n 0, 1) := by decide +kernel
theorem dX0_copyFrom_41 : decode cX0_copyFrom 41 = .ok (.aload_n 1, 1) := by decide +kernel
theorem dX0_copyFrom_42 : decode cX0_copyFrom 42 = .ok (.getfield 41, 3) := by decide +kernel
theorem dX0_copyFrom_45 : decode cX0_copyFrom 45 = .ok (.putfield 41, 3) := by decide +kernel
theorem dX0_copyFrom_48 : decode cX0_copyFrom 48 = .ok (.aload_n 0, 1) := by decide +kernel
theorem dX0_copyFrom_49 : decode cX0_copyFrom 49 = .ok (.aload_n 1, 1) := by decide +kernel
theorem dX0_copyFrom_50 : decode cX0_copyFrom 50 = .ok (.getfield 63, 3) := by decide +kernel
theorem dX0_copyFrom_53 : decode cX0_copyFrom 53 = .ok (.putfield 63, 3) := by decide +kernel
theorem dX0_copyFrom_56 : decode cX0_copyFrom 56 = .ok (.aload_n 0, 1) := by decide +kernel
theorem dX0_copyFrom_57 : decode cX0_copyFrom 57 = .ok (.aload_n 1, 1) := by decide +kernel
theorem dX0_copyFrom_58 : decode cX0_copyFrom 58 = .ok (.getfield 66, 3) := by decide +kernel
theorem dX0_copyFrom_61 : decode cX0_copyFrom 61 = .ok (.putfield 66, 3) := by decide +kernel
theorem dX0_copyFrom_64 : decode cX0_copyFrom 64 = .ok (.aload_n 0, 1) := by decide +kernel
theorem dX0_copyFrom_65 : decode cX0_copyFrom 65 = .ok (.aload_n 1, 1) := by decide +kernel
theorem dX0_copyFrom_66 : decode cX0_copyFrom 66 = .ok (.getfield 69, 3) := by decide +kernel
theorem dX0_copyFrom_69 : decode cX0_copyFrom 69 = .ok (.putfield 69, 3) := by decide +kernel
theorem dX0_copyFrom_72 : decode cX0_copyFrom 72 = .ok (.aload_n 0, 1) := by decide +kernel
theorem dX0_copyFrom_73 : decode cX0_copyFrom 73 = .ok (.aload_n 1, 1) := by decide +kernel
theorem dX0_copyFrom_74 : decode cX0_copyFrom 74 = .ok (.getfield 44, 3) := by decide +kernel
theorem dX0_copyFrom_77 : decode cX0_copyFrom 77 = .ok (.putfield 44, 3) := by decide +kernel
theorem dX0_copyFrom_80 : decode cX0_copyFrom 80 = .ok (.aload_n 0, 1) := by decide +kernel
theorem dX0_copyFrom_81 : decode cX0_copyFrom 81 = .ok (.aload_n 1, 1) := by decide +kernel
theorem dX0_copyFrom_82 : decode cX0_copyFrom 82 = .ok (.getfield 48, 3) := by decide +kernel
theorem dX0_copyFrom_85 : decode cX0_copyFrom 85 = .ok (.putfield 48, 3) := by decide +kernel
theorem dX0_copyFrom_88 : decode cX0_copyFrom 88 = .ok (.aload_n 0, 1) := by decide +kernel
theorem dX0_copyFrom_89 : decode cX0_copyFrom 89 = .ok (.aload_n 1, 1) := by decide +kernel
theorem dX0_copyFrom_90 : decode cX0_copyFrom 90 = .ok (.getfield 51, 3) := by decide +kernel
theorem dX0_copyFrom_93 : decode cX0_copyFrom 93 = .ok (.putfield 51, 3) := by decide +kernel
theorem dX0_copyFrom_96 : decode cX0_copyFrom 96 = .ok (.aload_n 0, 1) := by decide +kernel
theorem dX0_copyFrom_97 : decode cX0_copyFrom 97 = .ok (.aload_n 1, 1) := by decide +kernel
theorem dX0_copyFrom_98 : decode cX0_copyFrom 98 = .ok (.getfield 54, 3) := by decide +kernel
theorem dX0_copyFrom_101 : decode cX0_copyFrom 101 = .ok (.putfield 54, 3) := by decide +kernel
theorem dX0_copyFrom_104 : decode cX0_copyFrom 104 = .ok (.aload_n 0, 1) := by decide +kernel
theorem dX0_copyFrom_105 : decode cX0_copyFrom 105 = .ok (.aload_n 1, 1) := by decide +kernel
theorem dX0_copyFrom_106 : decode cX0_copyFrom 106 = .ok (.getfield 57, 3) := by decide +kernel
theorem dX0_copyFrom_109 : decode cX0_copyFrom 109 = .ok (.putfield 57, 3) := by decide +kernel
theorem dX0_copyFrom_112 : decode cX0_copyFrom 112 = .ok (.iconst 0, 1) := by decide +kernel
theorem dX0_copyFrom_113 : decode cX0_copyFrom 113 = .ok (.istore_n 2, 1) := by decide +kernel
theorem dX0_copyFrom_114 : decode cX0_copyFrom 114 = .ok (.iload_n 2, 1) := by decide +kernel
theorem dX0_copyFrom_115 : decode cX0_copyFrom 115 = .ok (.iconst 4, 1) := by decide +kernel
theorem dX0_copyFrom_116 : decode cX0_copyFrom 116 = .ok (.if_icmp .ge 21, 3) := by decide +kernel
theorem dX0_copyFrom_119 : decode cX0_copyFrom 119 = .ok (.aload_n 0, 1) := by decide +kernel
theorem dX0_copyFrom_120 : decode cX0_copyFrom 120 = .ok (.getfield 9, 3) := by decide +kernel
theorem dX0_copyFrom_123 : decode cX0_copyFrom 123 = .ok (.iload_n 2, 1) := by decide +kernel
theorem dX0_copyFrom_124 : decode cX0_copyFrom 124 = .ok (.aload_n 1, 1) := by decide +kernel
theorem dX0_copyFrom_125 : decode cX0_copyFrom 125 = .ok (.getfield 9, 3) := by decide +kernel
theorem dX0_copyFrom_128 : decode cX0_copyFrom 128 = .ok (.iload_n 2, 1) := by decide +kernel
theorem dX0_copyFrom_129 : decode cX0_copyFrom 129 = .ok (.iaload, 1) := by decide +kernel
theorem dX0_copyFrom_130 : decode cX0_copyFrom 130 = .ok (.iastore, 1) := by decide +kernel
theorem dX0_copyFrom_131 : decode cX0_copyFrom 131 = .ok (.iinc 2 1, 3) := by decide +kernel
theorem dX0_copyFrom_134 : decode cX0_copyFrom 134 = .ok (.goto (-20), 3) := by decide +kernel
theorem dX0_copyFrom_137 : decode cX0_copyFrom 137 = .ok (.iconst 0, 1) := by decide +kernel
theorem dX0_copyFrom_138 : decode cX0_copyFrom 138 = .ok (.istore_n 2, 1) := by decide +kernel
theorem dX0_copyFrom_139 : decode cX0_copyFrom 139 = .ok (.iload_n 2, 1) := by decide +kernel
theorem dX0_copyFrom_140 : decode cX0_copyFrom 140 = .ok (.bipush 8, 2) := by decide +kernel
theorem dX0_copyFrom_142 : decode cX0_copyFrom 142 = .ok (.if_icmp .ge 45, 3) := by decide +kernel
theorem dX0_copyFrom_145 : decode cX0_copyFrom 145 = .ok (.aload_n 0, 1) := by decide +kernel
theorem dX0_copyFrom_146 : decode cX0_copyFrom 146 = .ok (.getfield 15, 3) := by decide +kernel
theorem dX0_copyFrom_149 : decode cX0_copyFrom 149 = .ok (.iload_n 2, 1) := by decide +kernel
theorem dX0_copyFrom_150 : decode cX0_copyFrom 150 = .ok (.aload_n 1, 1) := by decide +kernel
theorem dX0_copyFrom_151 : decode cX0_copyFrom 151 = .ok (.getfield 15, 3) := by decide +kernel
theorem dX0_copyFrom_154 : decode cX0_copyFrom 154 = .ok (.iload_n 2, 1) := by decide +kernel
theorem dX0_copyFrom_155 : decode cX0_copyFrom 155 = .ok (.iaload, 1) := by decide +kernel
theorem dX0_copyFrom_156 : decode cX0_copyFrom 156 = .ok (.iastore, 1) := by decide +kernel
theorem dX0_copyFrom_157 : decode cX0_copyFrom 157 = .ok (.aload_n 0, 1) := by decide +kernel
theorem dX0_copyFrom_158 : decode cX0_copyFrom 158 = .ok (.getfield 18, 3) := by decide +kernel
theorem dX0_copyFrom_161 : decode cX0_copyFrom 161 = .ok (.iload_n 2, 1) := by decide +kernel
theorem dX0_copyFrom_162 : decode cX0_copyFrom 162 = .ok (.aload_n 1, 1) := by decide +kernel
theorem dX0_copyFrom_163 : decode cX0_copyFrom 163 = .ok (.getfield 18, 3) := by decide +kernel
theorem dX0_copyFrom_166 : decode cX0_copyFrom 166 = .ok (.iload_n 2, 1) := by decide +kernel
theorem dX0_copyFrom_167 : decode cX0_copyFrom 167 = .ok (.iaload, 1) := by decide +kernel
theorem dX0_copyFrom_168 : decode cX0_copyFrom 168 = .ok (.iastore, 1) := by decide +kernel
theorem dX0_copyFrom_169 : decode cX0_copyFrom 169 = .ok (.aload_n 0, 1) := by decide +kernel
theorem dX0_copyFrom_170 : decode cX0_copyFrom 170 = .ok (.getfield 21, 3) := by decide +kernel
theorem dX0_copyFrom_173 : decode cX0_copyFrom 173 = .ok (.iload_n 2, 1) := by decide +kernel
theorem dX0_copyFrom_174 : decode cX0_copyFrom 174 = .ok (.aload_n 1, 1) := by decide +kernel
theorem dX0_copyFrom_175 : decode cX0_copyFrom 175 = .ok (.getfield 21, 3) := by decide +kernel
theorem dX0_copyFrom_178 : decode cX0_copyFrom 178 = .ok (.iload_n 2, 1) := by decide +kernel
theorem dX0_copyFrom_179 : decode cX0_copyFrom 179 = .ok (.iaload, 1) := by decide +kernel
theorem dX0_copyFrom_180 : decode cX0_copyFrom 180 = .ok (.iastore, 1) := by decide +kernel
theorem dX0_copyFrom_181 : decode cX0_copyFrom 181 = .ok (.iinc 2 1, 3) := by decide +kernel
theorem dX0_copyFrom_184 : decode cX0_copyFrom 184 = .ok (.goto (-45), 3) := by decide +kernel
theorem dX0_copyFrom_187 : decode cX0_copyFrom 187 = .ok (.return_, 1) := by decide +kernel
theorem dX0_allowsPeriod_0 : decode cX0_allowsPeriod 0 = .ok (.iload_n 1, 1) := by decide +kernel
theorem dX0_allowsPeriod_1 : decode cX0_allowsPeriod 1 = .ok (.iconst 2, 1) := by decide +kernel
theorem dX0_allowsPeriod_2 : decode cX0_allowsPeriod 2 = .ok (.if_icmp .lt 21, 3) := by decide +kernel
theorem dX0_allowsPeriod_5 : decode cX0_allowsPeriod 5 = .ok (.iload_n 1, 1) := by decide +kernel
theorem dX0_allowsPeriod_6 : decode cX0_allowsPeriod 6 = .ok (.bipush 99, 2) := by decide +kernel
theorem dX0_allowsPeriod_8 : decode cX0_allowsPeriod 8 = .ok (.if_icmp .gt 15, 3) := by decide +kernel
theorem dX0_allowsPeriod_11 : decode cX0_allowsPeriod 11 = .ok (.iload_n 1, 1) := by decide +kernel
theorem dX0_allowsPeriod_12 : decode cX0_allowsPeriod 12 = .ok (.aload_n 0, 1) := by decide +kernel
theorem dX0_allowsPeriod_13 : decode cX0_allowsPeriod 13 = .ok (.getfield 32, 3) := by decide +kernel
theorem dX0_allowsPeriod_16 : decode cX0_allowsPeriod 16 = .ok (.if_icmp .le 7, 3) := by decide +kernel
theorem dX0_allowsPeriod_19 : decode cX0_allowsPeriod 19 = .ok (.iconst 1, 1) := by decide +kernel
theorem dX0_allowsPeriod_20 : decode cX0_allowsPeriod 20 = .ok (.goto 4, 3) := by decide +kernel
theorem dX0_allowsPeriod_23 : decode cX0_allowsPeriod 23 = .ok (.iconst 0, 1) := by decide +kernel
theorem dX0_allowsPeriod_24 : decode cX0_allowsPeriod 24 = .ok (.ireturn, 1) := by decide +kernel
theorem dX0_allowsFirstWake_0 : decode cX0_allowsFirstWake 0 = .ok (.iload_n 1, 1) := by decide +kernel
theorem dX0_allowsFirstWake_1 : decode cX0_allowsFirstWake 1 = .ok (.ifCond .lt 15, 3) := by decide +kernel
theorem dX0_allowsFirstWake_4 : decode cX0_allowsFirstWake 4 = .ok (.iload_n 1, 1) := by decide +kernel
theorem dX0_allowsFirstWake_5 : decode cX0_allowsFirstWake 5 = .ok (.aload_n 0, 1) := by decide +kernel
theorem dX0_allowsFirstWake_6 : decode cX0_allowsFirstWake 6 = .ok (.getfield 28, 3) := by decide +kernel
theorem dX0_allowsFirstWake_9 : decode cX0_allowsFirstWake 9 = .ok (.if_icmp .ge 7, 3) := by decide +kernel
theorem dX0_allowsFirstWake_12 : decode cX0_allowsFirstWake 12 = .ok (.iconst 1, 1) := by decide +kernel
theorem dX0_allowsFirstWake_13 : decode cX0_allowsFirstWake 13 = .ok (.goto 4, 3) := by decide +kernel
theorem dX0_allowsFirstWake_16 : decode cX0_allowsFirstWake 16 = .ok (.iconst 0, 1) := by decide +kernel
theorem dX0_allowsFirstWake_17 : decode cX0_allowsFirstWake 17 = .ok (.ireturn, 1) := by decide +kernel
theorem dX0_isDueAt_0 : decode cX0_isDueAt 0 = .ok (.iload_n 1, 1) := by decide +kernel
theorem dX0_isDueAt_1 : decode cX0_isDueAt 1 = .ok (.aload_n 0, 1) := by decide +kernel
theorem dX0_isDueAt_2 : decode cX0_isDueAt 2 = .ok (.getfield 32, 3) := by decide +kernel
theorem dX0_isDueAt_5 : decode cX0_isDueAt 5 = .ok (.isub, 1) := by decide +kernel
theorem dX0_isDueAt_6 : decode cX0_isDueAt 6 = .ok (.istore_n 2, 1) := by decide +kernel
theorem dX0_isDueAt_7 : decode cX0_isDueAt 7 = .ok (.iload_n 2, 1) := by decide +kernel
theorem dX0_isDueAt_8 : decode cX0_isDueAt 8 = .ok (.ifCond .lt 23, 3) := by decide +kernel
theorem dX0_isDueAt_11 : decode cX0_isDueAt 11 = .ok (.aload_n 0, 1) := by decide +kernel
theorem dX0_isDueAt_12 : decode cX0_isDueAt 12 = .ok (.getfield 28, 3) := by decide +kernel
theorem dX0_isDueAt_15 : decode cX0_isDueAt 15 = .ok (.ifCond .le 16, 3) := by decide +kernel
theorem dX0_isDueAt_18 : decode cX0_isDueAt 18 = .ok (.iload_n 2, 1) := by decide +kernel
theorem dX0_isDueAt_19 : decode cX0_isDueAt 19 = .ok (.aload_n 0, 1) := by decide +kernel
theorem dX0_isDueAt_20 : decode cX0_isDueAt 20 = .ok (.getfield 28, 3) := by decide +kernel
theorem dX0_isDueAt_23 : decode cX0_isDueAt 23 = .ok (.irem, 1) := by decide +kernel
theorem dX0_isDueAt_24 : decode cX0_isDueAt 24 = .ok (.ifCond .ne 7, 3) := by decide +kernel
theorem dX0_isDueAt_27 : decode cX0_isDueAt 27 = .ok (.iconst 1, 1) := by decide +kernel
theorem dX0_isDueAt_28 : decode cX0_isDueAt 28 = .ok (.goto 4, 3) := by decide +kernel
theorem dX0_isDueAt_31 : decode cX0_isDueAt 31 = .ok (.iconst 0, 1) := by decide +kernel
theorem dX0_isDueAt_32 : decode cX0_isDueAt 32 = .ok (.ireturn, 1) := by decide +kernel
theorem dX0_slotsUntilDue_0 : decode cX0_slotsUntilDue 0 = .ok (.iconst 1, 1) := by decide +kernel
theorem dX0_slotsUntilDue_1 : decode cX0_slotsUntilDue 1 = .ok (.istore_n 2, 1) := by decide +kernel
theorem dX0_slotsUntilDue_2 : decode cX0_slotsUntilDue 2 = .ok (.iload_n 2, 1) := by decide +kernel
theorem dX0_slotsUntilDue_3 : decode cX0_slotsUntilDue 3 = .ok (.bipush 99, 2) := by decide +kernel
theorem dX0_slotsUntilDue_5 : decode cX0_slotsUntilDue 5 = .ok (.if_icmp .ge 19, 3) := by decide +kernel
theorem dX0_slotsUntilDue_8 : decode cX0_slotsUntilDue 8 = .ok (.aload_n 0, 1) := by decide +kernel
theorem dX0_slotsUntilDue_9 : decode cX0_slotsUntilDue 9 = .ok (.iload_n 1, 1) := by decide +kernel
theorem dX0_slotsUntilDue_10 : decode cX0_slotsUntilDue 10 = .ok (.iload_n 2, 1) := by decide +kernel
theorem dX0_slotsUntilDue_11 : decode cX0_slotsUntilDue 11 = .ok (.iadd, 1) := by decide +kernel
theorem dX0_slotsUntilDue_12 : decode cX0_slotsUntilDue 12 = .ok (.invokevirtual 72, 3) := by decide +kernel
theorem dX0_slotsUntilDue_15 : decode cX0_slotsUntilDue 15 = .ok (.ifCond .ne 9, 3) := by decide +kernel
theorem dX0_slotsUntilDue_18 : decode cX0_slotsUntilDue 18 = .ok (.iinc 2 1, 3) := by decide +kernel
theorem dX0_slotsUntilDue_21 : decode cX0_slotsUntilDue 21 = .ok (.goto (-19), 3) := by decide +kernel
theorem dX0_slotsUntilDue_24 : decode cX0_slotsUntilDue 24 = .ok (.iload_n 2, 1) := by decide +kernel
theorem dX0_slotsUntilDue_25 : decode cX0_slotsUntilDue 25 = .ok (.ireturn, 1) := by decide +kernel
theorem dX0_windowSize_0 : decode cX0_windowSize 0 = .ok (.bipush 32, 2) := by decide +kernel
theorem dX0_windowSize_2 : decode cX0_windowSize 2 = .ok (.iconst 2, 1) := by decide +kernel
theorem dX0_windowSize_3 : decode cX0_windowSize 3 = .ok (.aload_n 0, 1) := by decide +kernel
theorem dX0_windowSize_4 : decode cX0_windowSize 4 = .ok (.getfield 69, 3) := by decide +kernel
theorem dX0_windowSize_7 : decode cX0_windowSize 7 = .ok (.ishl, 1) := by decide +kernel
theorem dX0_windowSize_8 : decode cX0_windowSize 8 = .ok (.invokestatic 76, 3) := by decide +kernel
theorem dX0_windowSize_11 : decode cX0_windowSize 11 = .ok (.ireturn, 1) := by decide +kernel
theorem dX0_hasOpenEars_0 : decode cX0_hasOpenEars 0 = .ok (.aload_n 0, 1) := by decide +kernel
theorem dX0_hasOpenEars_1 : decode cX0_hasOpenEars 1 = .ok (.getfield 63, 3) := by decide +kernel
theorem dX0_hasOpenEars_4 : decode cX0_hasOpenEars 4 = .ok (.iconst 1, 1) := by decide +kernel
theorem dX0_hasOpenEars_5 : decode cX0_hasOpenEars 5 = .ok (.if_icmp .eq 11, 3) := by decide +kernel
theorem dX0_hasOpenEars_8 : decode cX0_hasOpenEars 8 = .ok (.aload_n 0, 1) := by decide +kernel
theorem dX0_hasOpenEars_9 : decode cX0_hasOpenEars 9 = .ok (.getfield 63, 3) := by decide +kernel
theorem dX0_hasOpenEars_12 : decode cX0_hasOpenEars 12 = .ok (.iconst 2, 1) := by decide +kernel
theorem dX0_hasOpenEars_13 : decode cX0_hasOpenEars 13 = .ok (.if_icmp .ne 7, 3) := by decide +kernel
theorem dX0_hasOpenEars_16 : decode cX0_hasOpenEars 16 = .ok (.iconst 1, 1) := by decide +kernel
theorem dX0_hasOpenEars_17 : decode cX0_hasOpenEars 17 = .ok (.goto 4, 3) := by decide +kernel
theorem dX0_hasOpenEars_20 : decode cX0_hasOpenEars 20 = .ok (.iconst 0, 1) := by decide +kernel
theorem dX0_hasOpenEars_21 : decode cX0_hasOpenEars 21 = .ok (.ireturn, 1) := by decide +kernel
theorem dX0_startListening_0 : decode cX0_startListening 0 = .ok (.aload_n 0, 1) := by decide +kernel
theorem dX0_startListening_1 : decode cX0_startListening 1 = .ok (.iconst 1, 1) := by decide +kernel
theorem dX0_startListening_2 : decode cX0_startListening 2 = .ok (.putfield 63, 3) := by decide +kernel
theorem dX0_startListening_5 : decode cX0_startListening 5 = .ok (.aload_n 0, 1) := by decide +kernel
theorem dX0_startListening_6 : decode cX0_startListening 6 = .ok (.aload_n 0, 1) := by decide +kernel
theorem dX0_startListening_7 : decode cX0_startListening 7 = .ok (.getfield 35, 3) := by decide +kernel
theorem dX0_startListening_10 : decode cX0_startListening 10 = .ok (.putfield 66, 3) := by decide +kernel
theorem dX0_startListening_13 : decode cX0_startListening 13 = .ok (.aload_n 0, 1) := by decide +kernel
theorem dX0_startListening_14 : decode cX0_startListening 14 = .ok (.iconst 0, 1) := by decide +kernel
theorem dX0_startListening_15 : decode cX0_startListening 15 = .ok (.putfield 44, 3) := by decide +kernel
theorem dX0_startListening_18 : decode cX0_startListening 18 = .ok (.return_, 1) := by decide +kernel
theorem dX0_startSending_0 : decode cX0_startSending 0 = .ok (.aload_n 0, 1) := by decide +kernel
theorem dX0_startSending_1 : decode cX0_startSending 1 = .ok (.iconst 3, 1) := by decide +kernel
theorem dX0_startSending_2 : decode cX0_startSending 2 = .ok (.putfield 63, 3) := by decide +kernel
theorem dX0_startSending_5 : decode cX0_startSending 5 = .ok (.aload_n 0, 1) := by decide +kernel
theorem dX0_startSending_6 : decode cX0_startSending 6 = .ok (.aload_n 0, 1) := by decide +kernel
theorem dX0_startSending_7 : decode cX0_startSending 7 = .ok (.getfield 38, 3) := by decide +kernel
theorem dX0_startSending_10 : decode cX0_startSending 10 = .ok (.putfield 66, 3) := by decide +kernel
theorem dX0_startSending_13 : decode cX0_startSending 13 = .ok (.iconst 0, 1) := by decide +kernel
theorem dX0_startSending_14 : decode cX0_startSending 14 = .ok (.istore_n 1, 1) := by decide +kernel
theorem dX0_startSending_15 : decode cX0_startSending 15 = .ok (.iload_n 1, 1) := by decide +kernel
theorem dX0_startSending_16 : decode cX0_startSending 16 = .ok (.bipush 8, 2) := by decide +kernel
theorem dX0_startSending_18 : decode cX0_startSending 18 = .ok (.if_icmp .ge 16, 3) := by decide +kernel
theorem dX0_startSending_21 : decode cX0_startSending 21 = .ok (.aload_n 0, 1) := by decide +kernel
theorem dX0_startSending_22 : decode cX0_startSending 22 = .ok (.getfield 18, 3) := by decide +kernel
theorem dX0_startSending_25 : decode cX0_startSending 25 = .ok (.iload_n 1, 1) := by decide +kernel
theorem dX0_startSending_26 : decode cX0_startSending 26 = .ok (.iconst 0, 1) := by decide +kernel
theorem dX0_startSending_27 : decode cX0_startSending 27 = .ok (.iastore, 1) := by decide +kernel
theorem dX0_startSending_28 : decode cX0_startSending 28 = .ok (.iinc 1 1, 3) := by decide +kernel
theorem dX0_startSending_31 : decode cX0_startSending 31 = .ok (.goto (-16), 3) := by decide +kernel
theorem dX0_startSending_34 : decode cX0_startSending 34 = .ok (.return_, 1) := by decide +kernel
theorem dX0_payForSlot_0 : decode cX0_payForSlot 0 = .ok (.iload_n 1, 1) := by decide +kernel
theorem dX0_payForSlot_1 : decode cX0_payForSlot 1 = .ok (.aload_n 0, 1) := by decide +kernel
theorem dX0_payForSlot_2 : decode cX0_payForSlot 2 = .ok (.getfield 41, 3) := by decide +kernel
theorem dX0_payForSlot_5 : decode cX0_payForSlot 5 = .ok (.invokestatic 76, 3) := by decide +kernel
theorem dX0_payForSlot_8 : decode cX0_payForSlot 8 = .ok (.istore_n 2, 1) := by decide +kernel
theorem dX0_payForSlot_9 : decode cX0_payForSlot 9 = .ok (.aload_n 0, 1) := by decide +kernel
theorem dX0_payForSlot_10 : decode cX0_payForSlot 10 = .ok (.dup, 1) := by decide +kernel
theorem dX0_payForSlot_11 : decode cX0_payForSlot 11 = .ok (.getfield 41, 3) := by decide +kernel
theorem dX0_payForSlot_14 : decode cX0_payForSlot 14 = .ok (.iload_n 2, 1) := by decide +kernel
theorem dX0_payForSlot_15 : decode cX0_payForSlot 15 = .ok (.isub, 1) := by decide +kernel
theorem dX0_payForSlot_16 : decode cX0_payForSlot 16 = .ok (.putfield 41, 3) := by decide +kernel
theorem dX0_payForSlot_19 : decode cX0_payForSlot 19 = .ok (.aload_n 0, 1) := by decide +kernel
theorem dX0_payForSlot_20 : decode cX0_payForSlot 20 = .ok (.dup, 1) := by decide +kernel
theorem dX0_payForSlot_21 : decode cX0_payForSlot 21 = .ok (.getfield 57, 3) := by decide +kernel
theorem dX0_payForSlot_24 : decode cX0_payForSlot 24 = .ok (.iload_n 2, 1) := by decide +kernel
theorem dX0_payForSlot_25 : decode cX0_payForSlot 25 = .ok (.iadd, 1) := by decide +kernel
theorem dX0_payForSlot_26 : decode cX0_payForSlot 26 = .ok (.putfield 57, 3) := by decide +kernel
theorem dX0_payForSlot_29 : decode cX0_payForSlot 29 = .ok (.aload_n 0, 1) := by decide +kernel
theorem dX0_payForSlot_30 : decode cX0_payForSlot 30 = .ok (.getfield 41, 3) := by decide +kernel
theorem dX0_payForSlot_33 : decode cX0_payForSlot 33 = .ok (.ifCond .ne 13, 3) := by decide +kernel
theorem dX0_payForSlot_36 : decode cX0_payForSlot 36 = .ok (.aload_n 0, 1) := by decide +kernel
theorem dX0_payForSlot_37 : decode cX0_payForSlot 37 = .ok (.iconst 4, 1) := by decide +kernel
theorem dX0_payForSlot_38 : decode cX0_payForSlot 38 = .ok (.putfield 63, 3) := by decide +kernel
theorem dX0_payForSlot_41 : decode cX0_payForSlot 41 = .ok (.aload_n 0, 1) := by decide +kernel
theorem dX0_payForSlot_42 : decode cX0_payForSlot 42 = .ok (.iconst 0, 1) := by decide +kernel
theorem dX0_payForSlot_43 : decode cX0_payForSlot 43 = .ok (.putfield 66, 3) := by decide +kernel
theorem dX0_payForSlot_46 : decode cX0_payForSlot 46 = .ok (.return_, 1) := by decide +kernel
theorem dX0_takeEnergy_0 : decode cX0_takeEnergy 0 = .ok (.aload_n 0, 1) := by decide +kernel
theorem dX0_takeEnergy_1 : decode cX0_takeEnergy 1 = .ok (.sipush 9999, 3) := by decide +kernel
theorem dX0_takeEnergy_4 : decode cX0_takeEnergy 4 = .ok (.aload_n 0, 1) := by decide +kernel
theorem dX0_takeEnergy_5 : decode cX0_takeEnergy 5 = .ok (.getfield 41, 3) := by decide +kernel
theorem dX0_takeEnergy_8 : decode cX0_takeEnergy 8 = .ok (.iload_n 1, 1) := by decide +kernel
theorem dX0_takeEnergy_9 : decode cX0_takeEnergy 9 = .ok (.iadd, 1) := by decide +kernel
theorem dX0_takeEnergy_10 : decode cX0_takeEnergy 10 = .ok (.invokestatic 76, 3) := by decide +kernel
theorem dX0_takeEnergy_13 : decode cX0_takeEnergy 13 = .ok (.putfield 41, 3) := by decide +kernel
theorem dX0_takeEnergy_16 : decode cX0_takeEnergy 16 = .ok (.aload_n 0, 1) := by decide +kernel
theorem dX0_takeEnergy_17 : decode cX0_takeEnergy 17 = .ok (.getfield 63, 3) := by decide +kernel
theorem dX0_takeEnergy_20 : decode cX0_takeEnergy 20 = .ok (.iconst 4, 1) := by decide +kernel
theorem dX0_takeEnergy_21 : decode cX0_takeEnergy 21 = .ok (.if_icmp .ne 7, 3) := by decide +kernel
theorem dX0_takeEnergy_24 : decode cX0_takeEnergy 24 = .ok (.aload_n 0, 1) := by decide +kernel
theorem dX0_takeEnergy_25 : decode cX0_takeEnergy 25 = .ok (.invokevirtual 60, 3) := by decide +kernel
theorem dX0_takeEnergy_28 : decode cX0_takeEnergy 28 = .ok (.return_, 1) := by decide +kernel
theorem dX4_isLetter_0 : decode cX4_isLetter 0 = .ok (.iload_n 0, 1) := by decide +kernel
theorem dX4_isLetter_1 : decode cX4_isLetter 1 = .ok (.bipush 97, 2) := by decide +kernel
theorem dX4_isLetter_3 : decode cX4_isLetter 3 = .ok (.if_icmp .lt 13, 3) := by decide +kernel
theorem dX4_isLetter_6 : decode cX4_isLetter 6 = .ok (.iload_n 0, 1) := by decide +kernel
theorem dX4_isLetter_7 : decode cX4_isLetter 7 = .ok (.bipush 122, 2) := by decide +kernel
theorem dX4_isLetter_9 : decode cX4_isLetter 9 = .ok (.if_icmp .gt 7, 3) := by decide +kernel
theorem dX4_isLetter_12 : decode cX4_isLetter 12 = .ok (.iconst 1, 1) := by decide +kernel
theorem dX4_isLetter_13 : decode cX4_isLetter 13 = .ok (.goto 4, 3) := by decide +kernel
theorem dX4_isLetter_16 : decode cX4_isLetter 16 = .ok (.iconst 0, 1) := by decide +kernel
theorem dX4_isLetter_17 : decode cX4_isLetter 17 = .ok (.ireturn, 1) := by decide +kernel
theorem dX4_add_0 : decode cX4_add 0 = .ok (.aload_n 0, 1) := by decide +kernel
theorem dX4_add_1 : decode cX4_add 1 = .ok (.getfield 32, 3) := by decide +kernel
theorem dX4_add_4 : decode cX4_add 4 = .ok (.sipush 700, 3) := by decide +kernel
theorem dX4_add_7 : decode cX4_add 7 = .ok (.if_icmp .gt 43, 3) := by decide +kernel
theorem dX4_add_10 : decode cX4_add 10 = .ok (.aload_n 0, 1) := by decide +kernel
theorem dX4_add_11 : decode cX4_add 11 = .ok (.getfield 9, 3) := by decide +kernel
theorem dX4_add_14 : decode cX4_add 14 = .ok (.aload_n 0, 1) := by decide +kernel
theorem dX4_add_15 : decode cX4_add 15 = .ok (.getfield 32, 3) := by decide +kernel
theorem dX4_add_18 : decode cX4_add 18 = .ok (.iload_n 1, 1) := by decide +kernel
theorem dX4_add_19 : decode cX4_add 19 = .ok (.iastore, 1) := by decide +kernel
theorem dX4_add_20 : decode cX4_add 20 = .ok (.aload_n 0, 1) := by decide +kernel
theorem dX4_add_21 : decode cX4_add 21 = .ok (.getfield 15, 3) := by decide +kernel
theorem dX4_add_24 : decode cX4_add 24 = .ok (.aload_n 0, 1) := by decide +kernel
theorem dX4_add_25 : decode cX4_add 25 = .ok (.getfield 32, 3) := by decide +kernel
theorem dX4_add_28 : decode cX4_add 28 = .ok (.iload_n 2, 1) := by decide +kernel
theorem dX4_add_29 : decode cX4_add 29 = .ok (.iastore, 1) := by decide +kernel
theorem dX4_add_30 : decode cX4_add 30 = .ok (.aload_n 0, 1) := by decide +kernel
theorem dX4_add_31 : decode cX4_add 31 = .ok (.getfield 18, 3) := by decide +kernel
theorem dX4_add_34 : decode cX4_add 34 = .ok (.aload_n 0, 1) := by decide +kernel
theorem dX4_add_35 : decode cX4_add 35 = .ok (.getfield 32, 3) := by decide +kernel
theorem dX4_add_38 : decode cX4_add 38 = .ok (.lload_n 3, 1) := by decide +kernel
theorem dX4_add_39 : decode cX4_add 39 = .ok (.lastore, 1) := by decide +kernel
theorem dX4_add_40 : decode cX4_add 40 = .ok (.aload_n 0, 1) := by decide +kernel
theorem dX4_add_41 : decode cX4_add 41 = .ok (.dup, 1) := by decide +kernel
theorem dX4_add_42 : decode cX4_add 42 = .ok (.getfield 32, 3) := by decide +kernel
theorem dX4_add_45 : decode cX4_add 45 = .ok (.iconst 1, 1) := by decide +kernel
theorem dX4_add_46 : decode cX4_add 46 = .ok (.iadd, 1) := by decide +kernel
theorem dX4_add_47 : decode cX4_add 47 = .ok (.putfield 32, 3) := by decide +kernel
theorem dX4_add_50 : decode cX4_add 50 = .ok (.return_, 1) := by decide +kernel
theorem dX4_addWord_0 : decode cX4_addWord 0 = .ok (.lconst 0, 1) := by decide +kernel
theorem dX4_addWord_1 : decode cX4_addWord 1 = .ok (.lstore 4, 2) := by decide +kernel
theorem dX4_addWord_3 : decode cX4_addWord 3 = .ok (.iload_n 2, 1) := by decide +kernel
theorem dX4_addWord_4 : decode cX4_addWord 4 = .ok (.istore 6, 2) := by decide +kernel
theorem dX4_addWord_6 : decode cX4_addWord 6 = .ok (.iload 6, 2) := by decide +kernel
theorem dX4_addWord_8 : decode cX4_addWord 8 = .ok (.iload_n 3, 1) := by decide +kernel
theorem dX4_addWord_9 : decode cX4_addWord 9 = .ok (.if_icmp .ge 46, 3) := by decide +kernel
theorem dX4_addWord_12 : decode cX4_addWord 12 = .ok (.aload_n 1, 1) := by decide +kernel
theorem dX4_addWord_13 : decode cX4_addWord 13 = .ok (.iload 6, 2) := by decide +kernel
theorem dX4_addWord_15 : decode cX4_addWord 15 = .ok (.baload, 1) := by decide +kernel
theorem dX4_addWord_16 : decode cX4_addWord 16 = .ok (.invokestatic 41, 3) := by decide +kernel
theorem dX4_addWord_19 : decode cX4_addWord 19 = .ok (.ifCond .eq 36, 3) := by decide +kernel
theorem dX4_addWord_22 : decode cX4_addWord 22 = .ok (.iload 6, 2) := by decide +kernel
theorem dX4_addWord_24 : decode cX4_addWord 24 = .ok (.iload_n 2, 1) := by decide +kernel
theorem dX4_addWord_25 : decode cX4_addWord 25 = .ok (.isub, 1) := by decide +kernel
theorem dX4_addWord_26 : decode cX4_addWord 26 = .ok (.bipush 8, 2) := by decide +kernel
theorem dX4_addWord_28 : decode cX4_addWord 28 = .ok (.if_icmp .ge 21, 3) := by decide +kernel
theorem dX4_addWord_31 : decode cX4_addWord 31 = .ok (.lload 4, 2) := by decide +kernel
theorem dX4_addWord_33 : decode cX4_addWord 33 = .ok (.aload_n 1, 1) := by decide +kernel
theorem dX4_addWord_34 : decode cX4_addWord 34 = .ok (.iload 6, 2) := by decide +kernel
theorem dX4_addWord_36 : decode cX4_addWord 36 = .ok (.baload, 1) := by decide +kernel
theorem dX4_addWord_37 : decode cX4_addWord 37 = .ok (.i2l, 1) := by decide +kernel
theorem dX4_addWord_38 : decode cX4_addWord 38 = .ok (.bipush 8, 2) := by decide +kernel
theorem dX4_addWord_40 : decode cX4_addWord 40 = .ok (.iload 6, 2) := by decide +kernel
theorem dX4_addWord_42 : decode cX4_addWord 42 = .ok (.iload_n 2, 1) := by decide +kernel
theorem dX4_addWord_43 : decode cX4_addWord 43 = .ok (.isub, 1) := by decide +kernel
theorem dX4_addWord_44 : decode cX4_addWord 44 = .ok (.imul, 1) := by decide +kernel
theorem dX4_addWord_45 : decode cX4_addWord 45 = .ok (.lshl, 1) := by decide +kernel
theorem dX4_addWord_46 : decode cX4_addWord 46 = .ok (.lor, 1) := by decide +kernel
theorem dX4_addWord_47 : decode cX4_addWord 47 = .ok (.lstore 4, 2) := by decide +kernel
theorem dX4_addWord_49 : decode cX4_addWord 49 = .ok (.iinc 6 1, 3) := by decide +kernel
theorem dX4_addWord_52 : decode cX4_addWord 52 = .ok (.goto (-46), 3) := by decide +kernel
theorem dX4_addWord_55 : decode cX4_addWord 55 = .ok (.aload_n 0, 1) := by decide +kernel
theorem dX4_addWord_56 : decode cX4_addWord 56 = .ok (.iload 6, 2) := by decide +kernel
theorem dX4_addWord_58 : decode cX4_addWord 58 = .ok (.iload_n 2, 1) := by decide +kernel
theorem dX4_addWord_59 : decode cX4_addWord 59 = .ok (.isub, 1) := by decide +kernel
theorem dX4_addWord_60 : decode cX4_addWord 60 = .ok (.bipush 8, 2) := by decide +kernel
theorem dX4_addWord_62 : decode cX4_addWord 62 = .ok (.if_icmp .le 7, 3) := by decide +kernel
theorem dX4_addWord_65 : decode cX4_addWord 65 = .ok (.iconst 3, 1) := by decide +kernel
theorem dX4_addWord_66 : decode cX4_addWord 66 = .ok (.goto 4, 3) := by decide +kernel
theorem dX4_addWord_69 : decode cX4_addWord 69 = .ok (.iconst 1, 1) := by decide +kernel
theorem dX4_addWord_70 : decode cX4_addWord 70 = .ok (.iload_n 2, 1) := by decide +kernel
theorem dX4_addWord_71 : decode cX4_addWord 71 = .ok (.lload 4, 2) := by decide +kernel
theorem dX4_addWord_73 : decode cX4_addWord 73 = .ok (.invokevirtual 59, 3) := by decide +kernel
theorem dX4_addWord_76 : decode cX4_addWord 76 = .ok (.iload 6, 2) := by decide +kernel
theorem dX4_addWord_78 : decode cX4_addWord 78 = .ok (.ireturn, 1) := by decide +kernel
theorem dX4_isDigit_0 : decode cX4_isDigit 0 = .ok (.iload_n 0, 1) := by decide +kernel
theorem dX4_isDigit_1 : decode cX4_isDigit 1 = .ok (.bipush 48, 2) := by decide +kernel
theorem dX4_isDigit_3 : decode cX4_isDigit 3 = .ok (.if_icmp .lt 13, 3) := by decide +kernel
theorem dX4_isDigit_6 : decode cX4_isDigit 6 = .ok (.iload_n 0, 1) := by decide +kernel
theorem dX4_isDigit_7 : decode cX4_isDigit 7 = .ok (.bipush 57, 2) := by decide +kernel
theorem dX4_isDigit_9 : decode cX4_isDigit 9 = .ok (.if_icmp .gt 7, 3) := by decide +kernel
theorem dX4_isDigit_12 : decode cX4_isDigit 12 = .ok (.iconst 1, 1) := by decide +kernel
theorem dX4_isDigit_13 : decode cX4_isDigit 13 = .ok (.goto 4, 3) := by decide +kernel
theorem dX4_isDigit_16 : decode cX4_isDigit 16 = .ok (.iconst 0, 1) := by decide +kernel
theorem dX4_isDigit_17 : decode cX4_isDigit 17 = .ok (.ireturn, 1) := by decide +kernel
theorem dX4_addNumber_0 : decode cX4_addNumber 0 = .ok (.iconst 0, 1) := by decide +kernel
theorem dX4_addNumber_1 : decode cX4_addNumber 1 = .ok (.istore 4, 2) := by decide +kernel
theorem dX4_addNumber_3 : decode cX4_addNumber 3 = .ok (.iload_n 2, 1) := by decide +kernel
theorem dX4_addNumber_4 : decode cX4_addNumber 4 = .ok (.istore 5, 2) := by decide +kernel
theorem dX4_addNumber_6 : decode cX4_addNumber 6 = .ok (.iload 5, 2) := by decide +kernel
theorem dX4_addNumber_8 : decode cX4_addNumber 8 = .ok (.iload_n 3, 1) := by decide +kernel
theorem dX4_addNumber_9 : decode cX4_addNumber 9 = .ok (.if_icmp .ge 42, 3) := by decide +kernel
theorem dX4_addNumber_12 : decode cX4_addNumber 12 = .ok (.aload_n 1, 1) := by decide +kernel
theorem dX4_addNumber_13 : decode cX4_addNumber 13 = .ok (.iload 5, 2) := by decide +kernel
theorem dX4_addNumber_15 : decode cX4_addNumber 15 = .ok (.baload, 1) := by decide +kernel
theorem dX4_addNumber_16 : decode cX4_addNumber 16 = .ok (.invokestatic 49, 3) := by decide +kernel
theorem dX4_addNumber_19 : decode cX4_addNumber 19 = .ok (.ifCond .eq 32, 3) := by decide +kernel
theorem dX4_addNumber_22 : decode cX4_addNumber 22 = .ok (.iload 5, 2) := by decide +kernel
theorem dX4_addNumber_24 : decode cX4_addNumber 24 = .ok (.iload_n 2, 1) := by decide +kernel
theorem dX4_addNumber_25 : decode cX4_addNumber 25 = .ok (.isub, 1) := by decide +kernel
theorem dX4_addNumber_26 : decode cX4_addNumber 26 = .ok (.iconst 3, 1) := by decide +kernel
theorem dX4_addNumber_27 : decode cX4_addNumber 27 = .ok (.if_icmp .ge 18, 3) := by decide +kernel
theorem dX4_addNumber_30 : decode cX4_addNumber 30 = .ok (.iload 4, 2) := by decide +kernel
theorem dX4_addNumber_32 : decode cX4_addNumber 32 = .ok (.bipush 10, 2) := by decide +kernel
theorem dX4_addNumber_34 : decode cX4_addNumber 34 = .ok (.imul, 1) := by decide +kernel
theorem dX4_addNumber_35 : decode cX4_addNumber 35 = .ok (.aload_n 1, 1) := by decide +kernel
theorem dX4_addNumber_36 : decode cX4_addNumber 36 = .ok (.iload 5, 2) := by decide +kernel
theorem dX4_addNumber_38 : decode cX4_addNumber 38 = .ok (.baload, 1) := by decide +kernel
theorem dX4_addNumber_39 : decode cX4_addNumber 39 = .ok (.iadd, 1) := by decide +kernel
theorem dX4_addNumber_40 : decode cX4_addNumber 40 = .ok (.bipush 48, 2) := by decide +kernel
theorem dX4_addNumber_42 : decode cX4_addNumber 42 = .ok (.isub, 1) := by decide +kernel
theorem dX4_addNumber_43 : decode cX4_addNumber 43 = .ok (.istore 4, 2) := by decide +kernel
theorem dX4_addNumber_45 : decode cX4_addNumber 45 = .ok (.iinc 5 1, 3) := by decide +kernel
theorem dX4_addNumber_48 : decode cX4_addNumber 48 = .ok (.goto (-42), 3) := by decide +kernel
theorem dX4_addNumber_51 : decode cX4_addNumber 51 = .ok (.aload_n 0, 1) := by decide +kernel
theorem dX4_addNumber_52 : decode cX4_addNumber 52 = .ok (.iload 5, 2) := by decide +kernel
theorem dX4_addNumber_54 : decode cX4_addNumber 54 = .ok (.iload_n 2, 1) := by decide +kernel
theorem dX4_addNumber_55 : decode cX4_addNumber 55 = .ok (.isub, 1) := by decide +kernel
theorem dX4_addNumber_56 : decode cX4_addNumber 56 = .ok (.iconst 3, 1) := by decide +kernel
theorem dX4_addNumber_57 : decode cX4_addNumber 57 = .ok (.if_icmp .le 7, 3) := by decide +kernel
theorem dX4_addNumber_60 : decode cX4_addNumber 60 = .ok (.iconst 3, 1) := by decide +kernel
theorem dX4_addNumber_61 : decode cX4_addNumber 61 = .ok (.goto 4, 3) := by decide +kernel
theorem dX4_addNumber_64 : decode cX4_addNumber 64 = .ok (.iconst 2, 1) := by decide +kernel
theorem dX4_addNumber_65 : decode cX4_addNumber 65 = .ok (.iload_n 2, 1) := by decide +kernel
theorem dX4_addNumber_66 : decode cX4_addNumber 66 = .ok (.iload 4, 2) := by decide +kernel
theorem dX4_addNumber_68 : decode cX4_addNumber 68 = .ok (.i2l, 1) := by decide +kernel
theorem dX4_addNumber_69 : decode cX4_addNumber 69 = .ok (.invokevirtual 59, 3) := by decide +kernel
theorem dX4_addNumber_72 : decode cX4_addNumber 72 = .ok (.iload 5, 2) := by decide +kernel
theorem dX4_addNumber_74 : decode cX4_addNumber 74 = .ok (.ireturn, 1) := by decide +kernel
theorem dX4_addSign_0 : decode cX4_addSign 0 = .ok (.iload_n 1, 1) := by decide +kernel
theorem dX4_addSign_1 : decode cX4_addSign 1 = .ok (.bipush 59, 2) := by decide +kernel
theorem dX4_addSign_3 : decode cX4_addSign 3 = .ok (.if_icmp .eq 15, 3) := by decide +kernel
theorem dX4_addSign_6 : decode cX4_addSign 6 = .ok (.iload_n 1, 1) := by decide +kernel
theorem dX4_addSign_7 : decode cX4_addSign 7 = .ok (.bipush 40, 2) := by decide +kernel
theorem dX4_addSign_9 : decode cX4_addSign 9 = .ok (.if_icmp .eq 9, 3) := by decide +kernel
theorem dX4_addSign_12 : decode cX4_addSign 12 = .ok (.iload_n 1, 1) := by decide +kernel
theorem dX4_addSign_13 : decode cX4_addSign 13 = .ok (.bipush 41, 2) := by decide +kernel
theorem dX4_addSign_15 : decode cX4_addSign 15 = .ok (.if_icmp .ne 13, 3) := by decide +kernel
theorem dX4_addSign_18 : decode cX4_addSign 18 = .ok (.aload_n 0, 1) := by decide +kernel
theorem dX4_addSign_19 : decode cX4_addSign 19 = .ok (.iload_n 1, 1) := by decide +kernel
theorem dX4_addSign_20 : decode cX4_addSign 20 = .ok (.iload_n 2, 1) := by decide +kernel
theorem dX4_addSign_21 : decode cX4_addSign 21 = .ok (.lconst 0, 1) := by decide +kernel
theorem dX4_addSign_22 : decode cX4_addSign 22 = .ok (.invokevirtual 59, 3) := by decide +kernel
theorem dX4_addSign_25 : decode cX4_addSign 25 = .ok (.goto 22, 3) := by decide +kernel
theorem dX4_addSign_28 : decode cX4_addSign 28 = .ok (.iload_n 1, 1) := by decide +kernel
theorem dX4_addSign_29 : decode cX4_addSign 29 = .ok (.bipush 32, 2) := by decide +kernel
theorem dX4_addSign_31 : decode cX4_addSign 31 = .ok (.if_icmp .eq 16, 3) := by decide +kernel
theorem dX4_addSign_34 : decode cX4_addSign 34 = .ok (.iload_n 1, 1) := by decide +kernel
theorem dX4_addSign_35 : decode cX4_addSign 35 = .ok (.bipush 10, 2) := by decide +kernel
theorem dX4_addSign_37 : decode cX4_addSign 37 = .ok (.if_icmp .eq 10, 3) := by decide +kernel
theorem dX4_addSign_40 : decode cX4_addSign 40 = .ok (.aload_n 0, 1) := by decide +kernel
theorem dX4_addSign_41 : decode cX4_addSign 41 = .ok (.iconst 3, 1) := by decide +kernel
theorem dX4_addSign_42 : decode cX4_addSign 42 = .ok (.iload_n 2, 1) := by decide +kernel
theorem dX4_addSign_43 : decode cX4_addSign 43 = .ok (.lconst 0, 1) := by decide +kernel
theorem dX4_addSign_44 : decode cX4_addSign 44 = .ok (.invokevirtual 59, 3) := by decide +kernel
theorem dX4_addSign_47 : decode cX4_addSign 47 = .ok (.return_, 1) := by decide +kernel
theorem dX4_advance_0 : decode cX4_advance 0 = .ok (.aload_n 0, 1) := by decide +kernel
theorem dX4_advance_1 : decode cX4_advance 1 = .ok (.getfield 35, 3) := by decide +kernel
theorem dX4_advance_4 : decode cX4_advance 4 = .ok (.aload_n 0, 1) := by decide +kernel
theorem dX4_advance_5 : decode cX4_advance 5 = .ok (.getfield 32, 3) := by decide +kernel
theorem dX4_advance_8 : decode cX4_advance 8 = .ok (.if_icmp .ge 52, 3) := by decide +kernel
theorem dX4_advance_11 : decode cX4_advance 11 = .ok (.aload_n 0, 1) := by decide +kernel
theorem dX4_advance_12 : decode cX4_advance 12 = .ok (.aload_n 0, 1) := by decide +kernel
theorem dX4_advance_13 : decode cX4_advance 13 = .ok (.getfield 9, 3) := by decide +kernel
theorem dX4_advance_16 : decode cX4_advance 16 = .ok (.aload_n 0, 1) := by decide +kernel
theorem dX4_advance_17 : decode cX4_advance 17 = .ok (.getfield 35, 3) := by decide +kernel
theorem dX4_advance_20 : decode cX4_advance 20 = .ok (.iaload, 1) := by decide +kernel
theorem dX4_advance_21 : decode cX4_advance 21 = .ok (.putfield 66, 3) := by decide +kernel
theorem dX4_advance_24 : decode cX4_advance 24 = .ok (.aload_n 0, 1) := by decide +kernel
theorem dX4_advance_25 : decode cX4_advance 25 = .ok (.aload_n 0, 1) := by decide +kernel
theorem dX4_advance_26 : decode cX4_advance 26 = .ok (.getfield 15, 3) := by decide +kernel
theorem dX4_advance_29 : decode cX4_advance 29 = .ok (.aload_n 0, 1) := by decide +kernel
theorem dX4_advance_30 : decode cX4_advance 30 = .ok (.getfield 35, 3) := by decide +kernel
theorem dX4_advance_33 : decode cX4_advance 33 = .ok (.iaload, 1) := by decide +kernel
theorem dX4_advance_34 : decode cX4_advance 34 = .ok (.putfield 69, 3) := by decide +kernel
theorem dX4_advance_37 : decode cX4_advance 37 = .ok (.aload_n 0, 1) := by decide +kernel
theorem dX4_advance_38 : decode cX4_advance 38 = .ok (.aload_n 0, 1) := by decide +kernel
theorem dX4_advance_39 : decode cX4_advance 39 = .ok (.getfield 18, 3) := by decide +kernel
theorem dX4_advance_42 : decode cX4_advance 42 = .ok (.aload_n 0, 1) := by decide +kernel
theorem dX4_advance_43 : decode cX4_advance 43 = .ok (.getfield 35, 3) := by decide +kernel
theorem dX4_advance_46 : decode cX4_advance 46 = .ok (.laload, 1) := by decide +kernel
theorem dX4_advance_47 : decode cX4_advance 47 = .ok (.putfield 72, 3) := by decide +kernel
theorem dX4_advance_50 : decode cX4_advance 50 = .ok (.aload_n 0, 1) := by decide +kernel
theorem dX4_advance_51 : decode cX4_advance 51 = .ok (.dup, 1) := by decide +kernel
theorem dX4_advance_52 : decode cX4_advance 52 = .ok (.getfield 35, 3) := by decide +kernel
theorem dX4_advance_55 : decode cX4_advance 55 = .ok (.iconst 1, 1) := by decide +kernel
theorem dX4_advance_56 : decode cX4_advance 56 = .ok (.iadd, 1) := by decide +kernel
theorem dX4_advance_57 : decode cX4_advance 57 = .ok (.putfield 35, 3) := by decide +kernel
theorem dX4_advance_60 : decode cX4_advance 60 = .ok (.return_, 1) := by decide +kernel
theorem dX4_begin_0 : decode cX4_begin 0 = .ok (.iload_n 2, 1) := by decide +kernel
theorem dX4_begin_1 : decode cX4_begin 1 = .ok (.aload_n 1, 1) := by decide +kernel
theorem dX4_begin_2 : decode cX4_begin 2 = .ok (.arraylength, 1) := by decide +kernel
theorem dX4_begin_3 : decode cX4_begin 3 = .ok (.invokestatic 26, 3) := by decide +kernel
theorem dX4_begin_6 : decode cX4_begin 6 = .ok (.istore_n 3, 1) := by decide +kernel
theorem dX4_begin_7 : decode cX4_begin 7 = .ok (.aload_n 0, 1) := by decide +kernel
theorem dX4_begin_8 : decode cX4_begin 8 = .ok (.iconst 0, 1) := by decide +kernel
theorem dX4_begin_9 : decode cX4_begin 9 = .ok (.putfield 32, 3) := by decide +kernel
theorem dX4_begin_12 : decode cX4_begin 12 = .ok (.aload_n 0, 1) := by decide +kernel
theorem dX4_begin_13 : decode cX4_begin 13 = .ok (.iconst 0, 1) := by decide +kernel
theorem dX4_begin_14 : decode cX4_begin 14 = .ok (.putfield 35, 3) := by decide +kernel
theorem dX4_begin_17 : decode cX4_begin 17 = .ok (.aload_n 0, 1) := by decide +kernel
theorem dX4_begin_18 : decode cX4_begin 18 = .ok (.iconst 0, 1) := by decide +kernel
theorem dX4_begin_19 : decode cX4_begin 19 = .ok (.putfield 38, 3) := by decide +kernel
theorem dX4_begin_22 : decode cX4_begin 22 = .ok (.aload_n 0, 1) := by decide +kernel
theorem dX4_begin_23 : decode cX4_begin 23 = .ok (.iconst (-1), 1) := by decide +kernel
theorem dX4_begin_24 : decode cX4_begin 24 = .ok (.putfield 22, 3) := by decide +kernel
theorem dX4_begin_27 : decode cX4_begin 27 = .ok (.iconst 0, 1) := by decide +kernel
theorem dX4_begin_28 : decode cX4_begin 28 = .ok (.istore 4, 2) := by decide +kernel
theorem dX4_begin_30 : decode cX4_begin 30 = .ok (.iconst 0, 1) := by decide +kernel
theorem dX4_begin_31 : decode cX4_begin 31 = .ok (.istore 5, 2) := by decide +kernel
theorem dX4_begin_33 : decode cX4_begin 33 = .ok (.iload 5, 2) := by decide +kernel
theorem dX4_begin_35 : decode cX4_begin 35 = .ok (.sipush 700, 3) := by decide +kernel
theorem dX4_begin_38 : decode cX4_begin 38 = .ok (.if_icmp .ge 74, 3) := by decide +kernel
theorem dX4_begin_41 : decode cX4_begin 41 = .ok (.iload 4, 2) := by decide +kernel
theorem dX4_begin_43 : decode cX4_begin 43 = .ok (.iload_n 3, 1) := by decide +kernel
theorem dX4_begin_44 : decode cX4_begin 44 = .ok (.if_icmp .ge 68, 3) := by decide +kernel
theorem dX4_begin_47 : decode cX4_begin 47 = .ok (.aload_n 1, 1) := by decide +kernel
theorem dX4_begin_48 : decode cX4_begin 48 = .ok (.iload 4, 2) := by decide +kernel
theorem dX4_begin_50 : decode cX4_begin 50 = .ok (.baload, 1) := by decide +kernel
theorem dX4_begin_51 : decode cX4_begin 51 = .ok (.invokestatic 41, 3) := by decide +kernel
theorem dX4_begin_54 : decode cX4_begin 54 = .ok (.ifCond .eq 16, 3) := by decide +kernel
theorem dX4_begin_57 : decode cX4_begin 57 = .ok (.aload_n 0, 1) := by decide +kernel
theorem dX4_begin_58 : decode cX4_begin 58 = .ok (.aload_n 1, 1) := by decide +kernel
theorem dX4_begin_59 : decode cX4_begin 59 = .ok (.iload 4, 2) := by decide +kernel
theorem dX4_begin_61 : decode cX4_begin 61 = .ok (.iload_n 3, 1) := by decide +kernel
theorem dX4_begin_62 : decode cX4_begin 62 = .ok (.invokevirtual 45, 3) := by decide +kernel
theorem dX4_begin_65 : decode cX4_begin 65 = .ok (.istore 4, 2) := by decide +kernel
theorem dX4_begin_67 : decode cX4_begin 67 = .ok (.goto 39, 3) := by decide +kernel
theorem dX4_begin_70 : decode cX4_begin 70 = .ok (.aload_n 1, 1) := by decide +kernel
theorem dX4_begin_71 : decode cX4_begin 71 = .ok (.iload 4, 2) := by decide +kernel
theorem dX4_begin_73 : decode cX4_begin 73 = .ok (.baload, 1) := by decide +kernel
theorem dX4_begin_74 : decode cX4_begin 74 = .ok (.invokestatic 49, 3) := by decide +kernel
theorem dX4_begin_77 : decode cX4_begin 77 = .ok (.ifCond .eq 16, 3) := by decide +kernel
theorem dX4_begin_80 : decode cX4_begin 80 = .ok (.aload_n 0, 1) := by decide +kernel
theorem dX4_begin_81 : decode cX4_begin 81 = .ok (.aload_n 1, 1) := by decide +kernel
theorem dX4_begin_82 : decode cX4_begin 82 = .ok (.iload 4, 2) := by decide +kernel
theorem dX4_begin_84 : decode cX4_begin 84 = .ok (.iload_n 3, 1) := by decide +kernel
theorem dX4_begin_85 : decode cX4_begin 85 = .ok (.invokevirtual 52, 3) := by decide +kernel
theorem dX4_begin_88 : decode cX4_begin 88 = .ok (.istore 4, 2) := by decide +kernel
theorem dX4_begin_90 : decode cX4_begin 90 = .ok (.goto 16, 3) := by decide +kernel
theorem dX4_begin_93 : decode cX4_begin 93 = .ok (.aload_n 0, 1) := by decide +kernel
theorem dX4_begin_94 : decode cX4_begin 94 = .ok (.aload_n 1, 1) := by decide +kernel
theorem dX4_begin_95 : decode cX4_begin 95 = .ok (.iload 4, 2) := by decide +kernel
theorem dX4_begin_97 : decode cX4_begin 97 = .ok (.baload, 1) := by decide +kernel
theorem dX4_begin_98 : decode cX4_begin 98 = .ok (.iload 4, 2) := by decide +kernel
theorem dX4_begin_100 : decode cX4_begin 100 = .ok (.invokevirtual 55, 3) := by decide +kernel
theorem dX4_begin_103 : decode cX4_begin 103 = .ok (.iinc 4 1, 3) := by decide +kernel
theorem dX4_begin_106 : decode cX4_begin 106 = .ok (.iinc 5 1, 3) := by decide +kernel
theorem dX4_begin_109 : decode cX4_begin 109 = .ok (.goto (-76), 3) := by decide +kernel
theorem dX4_begin_112 : decode cX4_begin 112 = .ok (.aload_n 0, 1) := by decide +kernel
theorem dX4_begin_113 : decode cX4_begin 113 = .ok (.iconst 0, 1) := by decide +kernel
theorem dX4_begin_114 : decode cX4_begin 114 = .ok (.iload_n 3, 1) := by decide +kernel
theorem dX4_begin_115 : decode cX4_begin 115 = .ok (.lconst 0, 1) := by decide +kernel
theorem dX4_begin_116 : decode cX4_begin 116 = .ok (.invokevirtual 59, 3) := by decide +kernel
theorem dX4_begin_119 : decode cX4_begin 119 = .ok (.aload_n 0, 1) := by decide +kernel
theorem dX4_begin_120 : decode cX4_begin 120 = .ok (.invokevirtual 63, 3) := by decide +kernel
theorem dX4_begin_123 : decode cX4_begin 123 = .ok (.return_, 1) := by decide +kernel
theorem dX6_letterOf_0 : decode cX6_letterOf 0 = .ok (.iload_n 2, 1) := by decide +kernel
theorem dX6_letterOf_1 : decode cX6_letterOf 1 = .ok (.ifCond .lt 9, 3) := by decide +kernel
theorem dX6_letterOf_4 : decode cX6_letterOf 4 = .ok (.iload_n 2, 1) := by decide +kernel
theorem dX6_letterOf_5 : decode cX6_letterOf 5 = .ok (.bipush 8, 2) := by decide +kernel
theorem dX6_letterOf_7 : decode cX6_letterOf 7 = .ok (.if_icmp .lt 7, 3) := by decide +kernel
theorem dX6_letterOf_10 : decode cX6_letterOf 10 = .ok (.iconst 0, 1) := by decide +kernel
theorem dX6_letterOf_11 : decode cX6_letterOf 11 = .ok (.goto 14, 3) := by decide +kernel
theorem dX6_letterOf_14 : decode cX6_letterOf 14 = .ok (.lload_n 0, 1) := by decide +kernel
theorem dX6_letterOf_15 : decode cX6_letterOf 15 = .ok (.bipush 8, 2) := by decide +kernel
theorem dX6_letterOf_17 : decode cX6_letterOf 17 = .ok (.iload_n 2, 1) := by decide +kernel
theorem dX6_letterOf_18 : decode cX6_letterOf 18 = .ok (.imul, 1) := by decide +kernel
theorem dX6_letterOf_19 : decode cX6_letterOf 19 = .ok (.lushr, 1) := by decide +kernel
theorem dX6_letterOf_20 : decode cX6_letterOf 20 = .ok (.l2i, 1) := by decide +kernel
theorem dX6_letterOf_21 : decode cX6_letterOf 21 = .ok (.sipush 255, 3) := by decide +kernel
theorem dX6_letterOf_24 : decode cX6_letterOf 24 = .ok (.iand, 1) := by decide +kernel
theorem dX6_letterOf_25 : decode cX6_letterOf 25 = .ok (.ireturn, 1) := by decide +kernel
theorem dX4_isWord_0 : decode cX4_isWord 0 = .ok (.aload_n 0, 1) := by decide +kernel
theorem dX4_isWord_1 : decode cX4_isWord 1 = .ok (.getfield 66, 3) := by decide +kernel
theorem dX4_isWord_4 : decode cX4_isWord 4 = .ok (.iconst 1, 1) := by decide +kernel
theorem dX4_isWord_5 : decode cX4_isWord 5 = .ok (.if_icmp .ne 17, 3) := by decide +kernel
theorem dX4_isWord_8 : decode cX4_isWord 8 = .ok (.aload_n 0, 1) := by decide +kernel
theorem dX4_isWord_9 : decode cX4_isWord 9 = .ok (.getfield 72, 3) := by decide +kernel
theorem dX4_isWord_12 : decode cX4_isWord 12 = .ok (.aload_n 1, 1) := by decide +kernel
theorem dX4_isWord_13 : decode cX4_isWord 13 = .ok (.invokevirtual 76, 3) := by decide +kernel
theorem dX4_isWord_16 : decode cX4_isWord 16 = .ok (.invokestatic 82, 3) := by decide +kernel
theorem dX4_isWord_19 : decode cX4_isWord 19 = .ok (.ifCond .eq 5, 3) := by decide +kernel
theorem dX4_isWord_22 : decode cX4_isWord 22 = .ok (.iconst 0, 1) := by decide +kernel
theorem dX4_isWord_23 : decode cX4_isWord 23 = .ok (.ireturn, 1) := by decide +kernel
theorem dX4_isWord_24 : decode cX4_isWord 24 = .ok (.iconst 0, 1) := by decide +kernel
theorem dX4_isWord_25 : decode cX4_isWord 25 = .ok (.istore_n 2, 1) := by decide +kernel
theorem dX4_isWord_26 : decode cX4_isWord 26 = .ok (.iload_n 2, 1) := by decide +kernel
theorem dX4_isWord_27 : decode cX4_isWord 27 = .ok (.aload_n 1, 1) := by decide +kernel
theorem dX4_isWord_28 : decode cX4_isWord 28 = .ok (.invokevirtual 76, 3) := by decide +kernel
theorem dX4_isWord_31 : decode cX4_isWord 31 = .ok (.if_icmp .ge 27, 3) := by decide +kernel
theorem dX4_isWord_34 : decode cX4_isWord 34 = .ok (.aload_n 0, 1) := by decide +kernel
theorem dX4_isWord_35 : decode cX4_isWord 35 = .ok (.getfield 72, 3) := by decide +kernel
theorem dX4_isWord_38 : decode cX4_isWord 38 = .ok (.iload_n 2, 1) := by decide +kernel
theorem dX4_isWord_39 : decode cX4_isWord 39 = .ok (.invokestatic 82, 3) := by decide +kernel
theorem dX4_isWord_42 : decode cX4_isWord 42 = .ok (.aload_n 1, 1) := by decide +kernel
theorem dX4_isWord_43 : decode cX4_isWord 43 = .ok (.iload_n 2, 1) := by decide +kernel
theorem dX4_isWord_44 : decode cX4_isWord 44 = .ok (.invokevirtual 86, 3) := by decide +kernel
theorem dX4_isWord_47 : decode cX4_isWord 47 = .ok (.if_icmp .eq 5, 3) := by decide +kernel
theorem dX4_isWord_50 : decode cX4_isWord 50 = .ok (.iconst 0, 1) := by decide +kernel
theorem dX4_isWord_51 : decode cX4_isWord 51 = .ok (.ireturn, 1) := by decide +kernel
theorem dX4_isWord_52 : decode cX4_isWord 52 = .ok (.iinc 2 1, 3) := by decide +kernel
theorem dX4_isWord_55 : decode cX4_isWord 55 = .ok (.goto (-29), 3) := by decide +kernel
theorem dX4_isWord_58 : decode cX4_isWord 58 = .ok (.iconst 1, 1) := by decide +kernel
theorem dX4_isWord_59 : decode cX4_isWord 59 = .ok (.ireturn, 1) := by decide +kernel
theorem dX4_fail_0 : decode cX4_fail 0 = .ok (.aload_n 0, 1) := by decide +kernel
theorem dX4_fail_1 : decode cX4_fail 1 = .ok (.iload_n 1, 1) := by decide +kernel
theorem dX4_fail_2 : decode cX4_fail 2 = .ok (.putfield 38, 3) := by decide +kernel
theorem dX4_fail_5 : decode cX4_fail 5 = .ok (.aload_n 0, 1) := by decide +kernel
theorem dX4_fail_6 : decode cX4_fail 6 = .ok (.aload_n 0, 1) := by decide +kernel
theorem dX4_fail_7 : decode cX4_fail 7 = .ok (.getfield 69, 3) := by decide +kernel
theorem dX4_fail_10 : decode cX4_fail 10 = .ok (.putfield 22, 3) := by decide +kernel
theorem dX4_fail_13 : decode cX4_fail 13 = .ok (.iconst 0, 1) := by decide +kernel
theorem dX4_fail_14 : decode cX4_fail 14 = .ok (.ireturn, 1) := by decide +kernel
theorem dX4_takeWord_0 : decode cX4_takeWord 0 = .ok (.aload_n 0, 1) := by decide +kernel
theorem dX4_takeWord_1 : decode cX4_takeWord 1 = .ok (.aload_n 1, 1) := by decide +kernel
theorem dX4_takeWord_2 : decode cX4_takeWord 2 = .ok (.invokevirtual 90, 3) := by decide +kernel
theorem dX4_takeWord_5 : decode cX4_takeWord 5 = .ok (.ifCond .ne 9, 3) := by decide +kernel
theorem dX4_takeWord_8 : decode cX4_takeWord 8 = .ok (.aload_n 0, 1) := by decide +kernel
theorem dX4_takeWord_9 : decode cX4_takeWord 9 = .ok (.iconst 1, 1) := by decide +kernel
theorem dX4_takeWord_10 : decode cX4_takeWord 10 = .ok (.invokevirtual 94, 3) := by decide +kernel
theorem dX4_takeWord_13 : decode cX4_takeWord 13 = .ok (.ireturn, 1) := by decide +kernel
theorem dX4_takeWord_14 : decode cX4_takeWord 14 = .ok (.aload_n 0, 1) := by decide +kernel
theorem dX4_takeWord_15 : decode cX4_takeWord 15 = .ok (.invokevirtual 63, 3) := by decide +kernel
theorem dX4_takeWord_18 : decode cX4_takeWord 18 = .ok (.iconst 1, 1) := by decide +kernel
theorem dX4_takeWord_19 : decode cX4_takeWord 19 = .ok (.ireturn, 1) := by decide +kernel
theorem dX4_takeSign_0 : decode cX4_takeSign 0 = .ok (.aload_n 0, 1) := by decide +kernel
theorem dX4_takeSign_1 : decode cX4_takeSign 1 = .ok (.getfield 66, 3) := by decide +kernel
theorem dX4_takeSign_4 : decode cX4_takeSign 4 = .ok (.iload_n 1, 1) := by decide +kernel
theorem dX4_takeSign_5 : decode cX4_takeSign 5 = .ok (.if_icmp .eq 9, 3) := by decide +kernel
theorem dX4_takeSign_8 : decode cX4_takeSign 8 = .ok (.aload_n 0, 1) := by decide +kernel
theorem dX4_takeSign_9 : decode cX4_takeSign 9 = .ok (.iconst 1, 1) := by decide +kernel
theorem dX4_takeSign_10 : decode cX4_takeSign 10 = .ok (.invokevirtual 94, 3) := by decide +kernel
theorem dX4_takeSign_13 : decode cX4_takeSign 13 = .ok (.ireturn, 1) := by decide +kernel
theorem dX4_takeSign_14 : decode cX4_takeSign 14 = .ok (.aload_n 0, 1) := by decide +kernel
theorem dX4_takeSign_15 : decode cX4_takeSign 15 = .ok (.invokevirtual 63, 3) := by decide +kernel
theorem dX4_takeSign_18 : decode cX4_takeSign 18 = .ok (.iconst 1, 1) := by decide +kernel
theorem dX4_takeSign_19 : decode cX4_takeSign 19 = .ok (.ireturn, 1) := by decide +kernel
theorem dX4_takeNumber_0 : decode cX4_takeNumber 0 = .ok (.aload_n 0, 1) := by decide +kernel
theorem dX4_takeNumber_1 : decode cX4_takeNumber 1 = .ok (.getfield 66, 3) := by decide +kernel
theorem dX4_takeNumber_4 : decode cX4_takeNumber 4 = .ok (.iconst 2, 1) := by decide +kernel
theorem dX4_takeNumber_5 : decode cX4_takeNumber 5 = .ok (.if_icmp .eq 11, 3) := by decide +kernel
theorem dX4_takeNumber_8 : decode cX4_takeNumber 8 = .ok (.aload_n 0, 1) := by decide +kernel
theorem dX4_takeNumber_9 : decode cX4_takeNumber 9 = .ok (.iconst 1, 1) := by decide +kernel
theorem dX4_takeNumber_10 : decode cX4_takeNumber 10 = .ok (.invokevirtual 94, 3) := by decide +kernel
theorem dX4_takeNumber_13 : decode cX4_takeNumber 13 = .ok (.pop, 1) := by decide +kernel
theorem dX4_takeNumber_14 : decode cX4_takeNumber 14 = .ok (.iconst (-1), 1) := by decide +kernel
theorem dX4_takeNumber_15 : decode cX4_takeNumber 15 = .ok (.ireturn, 1) := by decide +kernel
theorem dX4_takeNumber_16 : decode cX4_takeNumber 16 = .ok (.aload_n 0, 1) := by decide +kernel
theorem dX4_takeNumber_17 : decode cX4_takeNumber 17 = .ok (.getfield 72, 3) := by decide +kernel
theorem dX4_takeNumber_20 : decode cX4_takeNumber 20 = .ok (.iload_n 1, 1) := by decide +kernel
theorem dX4_takeNumber_21 : decode cX4_takeNumber 21 = .ok (.i2l, 1) := by decide +kernel
theorem dX4_takeNumber_22 : decode cX4_takeNumber 22 = .ok (.lcmp, 1) := by decide +kernel
theorem dX4_takeNumber_23 : decode cX4_takeNumber 23 = .ok (.ifCond .lt 13, 3) := by decide +kernel
theorem dX4_takeNumber_26 : decode cX4_takeNumber 26 = .ok (.aload_n 0, 1) := by decide +kernel
theorem dX4_takeNumber_27 : decode cX4_takeNumber 27 = .ok (.getfield 72, 3) := by decide +kernel
theorem dX4_takeNumber_30 : decode cX4_takeNumber 30 = .ok (.iload_n 2, 1) := by decide +kernel
theorem dX4_takeNumber_31 : decode cX4_takeNumber 31 = .ok (.i2l, 1) := by decide +kernel
theorem dX4_takeNumber_32 : decode cX4_takeNumber 32 = .ok (.lcmp, 1) := by decide +kernel
theorem dX4_takeNumber_33 : decode cX4_takeNumber 33 = .ok (.ifCond .le 11, 3) := by decide +kernel
theorem dX4_takeNumber_36 : decode cX4_takeNumber 36 = .ok (.aload_n 0, 1) := by decide +kernel
theorem dX4_takeNumber_37 : decode cX4_takeNumber 37 = .ok (.iconst 2, 1) := by decide +kernel
theorem dX4_takeNumber_38 : decode cX4_takeNumber 38 = .ok (.invokevirtual 94, 3) := by decide +kernel
theorem dX4_takeNumber_41 : decode cX4_takeNumber 41 = .ok (.pop, 1) := by decide +kernel
theorem dX4_takeNumber_42 : decode cX4_takeNumber 42 = .ok (.iconst (-1), 1) := by decide +kernel
theorem dX4_takeNumber_43 : decode cX4_takeNumber 43 = .ok (.ireturn, 1) := by decide +kernel
theorem dX4_takeNumber_44 : decode cX4_takeNumber 44 = .ok (.aload_n 0, 1) := by decide +kernel
theorem dX4_takeNumber_45 : decode cX4_takeNumber 45 = .ok (.getfield 72, 3) := by decide +kernel
theorem dX4_takeNumber_48 : decode cX4_takeNumber 48 = .ok (.l2i, 1) := by decide +kernel
theorem dX4_takeNumber_49 : decode cX4_takeNumber 49 = .ok (.istore_n 3, 1) := by decide +kernel
theorem dX4_takeNumber_50 : decode cX4_takeNumber 50 = .ok (.aload_n 0, 1) := by decide +kernel
theorem dX4_takeNumber_51 : decode cX4_takeNumber 51 = .ok (.invokevirtual 63, 3) := by decide +kernel
theorem dX4_takeNumber_54 : decode cX4_takeNumber 54 = .ok (.iload_n 3, 1) := by decide +kernel
theorem dX4_takeNumber_55 : decode cX4_takeNumber 55 = .ok (.ireturn, 1) := by decide +kernel
theorem dX5_find_0 : decode cX5_find 0 = .ok (.iconst 0, 1) := by decide +kernel
theorem dX5_find_1 : decode cX5_find 1 = .ok (.istore_n 3, 1) := by decide +kernel
theorem dX5_find_2 : decode cX5_find 2 = .ok (.iload_n 3, 1) := by decide +kernel
theorem dX5_find_3 : decode cX5_find 3 = .ok (.aload_n 0, 1) := by decide +kernel
theorem dX5_find_4 : decode cX5_find 4 = .ok (.getfield 25, 3) := by decide +kernel
theorem dX5_find_7 : decode cX5_find 7 = .ok (.if_icmp .ge 25, 3) := by decide +kernel
theorem dX5_find_10 : decode cX5_find 10 = .ok (.aload_n 0, 1) := by decide +kernel
theorem dX5_find_11 : decode cX5_find 11 = .ok (.getfield 17, 3) := by decide +kernel
theorem dX5_find_14 : decode cX5_find 14 = .ok (.iload_n 3, 1) := by decide +kernel
theorem dX5_find_15 : decode cX5_find 15 = .ok (.aaload, 1) := by decide +kernel
theorem dX5_find_16 : decode cX5_find 16 = .ok (.getfield 57, 3) := by decide +kernel
theorem dX5_find_19 : decode cX5_find 19 = .ok (.lload_n 1, 1) := by decide +kernel
theorem dX5_find_20 : decode cX5_find 20 = .ok (.lcmp, 1) := by decide +kernel
theorem dX5_find_21 : decode cX5_find 21 = .ok (.ifCond .ne 5, 3) := by decide +kernel
theorem dX5_find_24 : decode cX5_find 24 = .ok (.iload_n 3, 1) := by decide +kernel
theorem dX5_find_25 : decode cX5_find 25 = .ok (.ireturn, 1) := by decide +kernel
theorem dX5_find_26 : decode cX5_find 26 = .ok (.iinc 3 1, 3) := by decide +kernel
theorem dX5_find_29 : decode cX5_find 29 = .ok (.goto (-27), 3) := by decide +kernel
theorem dX5_find_32 : decode cX5_find 32 = .ok (.iconst (-1), 1) := by decide +kernel
theorem dX5_find_33 : decode cX5_find 33 = .ok (.ireturn, 1) := by decide +kernel
theorem dX4_beaconHere_0 : decode cX4_beaconHere 0 = .ok (.aload_n 0, 1) := by decide +kernel
theorem dX4_beaconHere_1 : decode cX4_beaconHere 1 = .ok (.getfield 66, 3) := by decide +kernel
theorem dX4_beaconHere_4 : decode cX4_beaconHere 4 = .ok (.iconst 1, 1) := by decide +kernel
theorem dX4_beaconHere_5 : decode cX4_beaconHere 5 = .ok (.if_icmp .eq 11, 3) := by decide +kernel
theorem dX4_beaconHere_8 : decode cX4_beaconHere 8 = .ok (.aload_n 0, 1) := by decide +kernel
theorem dX4_beaconHere_9 : decode cX4_beaconHere 9 = .ok (.iconst 1, 1) := by decide +kernel
theorem dX4_beaconHere_10 : decode cX4_beaconHere 10 = .ok (.invokevirtual 94, 3) := by decide +kernel
theorem dX4_beaconHere_13 : decode cX4_beaconHere 13 = .ok (.pop, 1) := by decide +kernel
theorem dX4_beaconHere_14 : decode cX4_beaconHere 14 = .ok (.iconst (-1), 1) := by decide +kernel
theorem dX4_beaconHere_15 : decode cX4_beaconHere 15 = .ok (.ireturn, 1) := by decide +kernel
theorem dX4_beaconHere_16 : decode cX4_beaconHere 16 = .ok (.aload_n 1, 1) := by decide +kernel
theorem dX4_beaconHere_17 : decode cX4_beaconHere 17 = .ok (.aload_n 0, 1) := by decide +kernel
theorem dX4_beaconHere_18 : decode cX4_beaconHere 18 = .ok (.getfield 72, 3) := by decide +kernel
theorem dX4_beaconHere_21 : decode cX4_beaconHere 21 = .ok (.invokevirtual 97, 3) := by decide +kernel
theorem dX4_beaconHere_24 : decode cX4_beaconHere 24 = .ok (.istore_n 2, 1) := by decide +kernel
theorem dX4_beaconHere_25 : decode cX4_beaconHere 25 = .ok (.iload_n 2, 1) := by decide +kernel
theorem dX4_beaconHere_26 : decode cX4_beaconHere 26 = .ok (.iconst (-1), 1) := by decide +kernel
theorem dX4_beaconHere_27 : decode cX4_beaconHere 27 = .ok (.if_icmp .ne 9, 3) := by decide +kernel
theorem dX4_beaconHere_30 : decode cX4_beaconHere 30 = .ok (.aload_n 0, 1) := by decide +kernel
theorem dX4_beaconHere_31 : decode cX4_beaconHere 31 = .ok (.iconst 4, 1) := by decide +kernel
theorem dX4_beaconHere_32 : decode cX4_beaconHere 32 = .ok (.invokevirtual 94, 3) := by decide +kernel
theorem dX4_beaconHere_35 : decode cX4_beaconHere 35 = .ok (.pop, 1) := by decide +kernel
theorem dX4_beaconHere_36 : decode cX4_beaconHere 36 = .ok (.iload_n 2, 1) := by decide +kernel
theorem dX4_beaconHere_37 : decode cX4_beaconHere 37 = .ok (.ireturn, 1) := by decide +kernel
theorem dX5_clear_0 : decode cX5_clear 0 = .ok (.aload_n 0, 1) := by decide +kernel
theorem dX5_clear_1 : decode cX5_clear 1 = .ok (.iconst 0, 1) := by decide +kernel
theorem dX5_clear_2 : decode cX5_clear 2 = .ok (.putfield 25, 3) := by decide +kernel
theorem dX5_clear_5 : decode cX5_clear 5 = .ok (.aload_n 0, 1) := by decide +kernel
theorem dX5_clear_6 : decode cX5_clear 6 = .ok (.getfield 9, 3) := by decide +kernel
theorem dX5_clear_9 : decode cX5_clear 9 = .ok (.iconst 0, 1) := by decide +kernel
theorem dX5_clear_10 : decode cX5_clear 10 = .ok (.iconst 1, 1) := by decide +kernel
theorem dX5_clear_11 : decode cX5_clear 11 = .ok (.iastore, 1) := by decide +kernel
theorem dX5_clear_12 : decode cX5_clear 12 = .ok (.aload_n 0, 1) := by decide +kernel
theorem dX5_clear_13 : decode cX5_clear 13 = .ok (.getfield 9, 3) := by decide +kernel
theorem dX5_clear_16 : decode cX5_clear 16 = .ok (.iconst 1, 1) := by decide +kernel
theorem dX5_clear_17 : decode cX5_clear 17 = .ok (.iconst 5, 1) := by decide +kernel
theorem dX5_clear_18 : decode cX5_clear 18 = .ok (.iastore, 1) := by decide +kernel
theorem dX5_clear_19 : decode cX5_clear 19 = .ok (.aload_n 0, 1) := by decide +kernel
theorem dX5_clear_20 : decode cX5_clear 20 = .ok (.getfield 9, 3) := by decide +kernel
theorem dX5_clear_23 : decode cX5_clear 23 = .ok (.iconst 2, 1) := by decide +kernel
theorem dX5_clear_24 : decode cX5_clear 24 = .ok (.iconst 3, 1) := by decide +kernel
theorem dX5_clear_25 : decode cX5_clear 25 = .ok (.iastore, 1) := by decide +kernel
theorem dX5_clear_26 : decode cX5_clear 26 = .ok (.aload_n 0, 1) := by decide +kernel
theorem dX5_clear_27 : decode cX5_clear 27 = .ok (.getfield 9, 3) := by decide +kernel
theorem dX5_clear_30 : decode cX5_clear 30 = .ok (.iconst 3, 1) := by decide +kernel
theorem dX5_clear_31 : decode cX5_clear 31 = .ok (.bipush 9, 2) := by decide +kernel
theorem dX5_clear_33 : decode cX5_clear 33 = .ok (.iastore, 1) := by decide +kernel
theorem dX5_clear_34 : decode cX5_clear 34 = .ok (.aload_n 0, 1) := by decide +kernel
theorem dX5_clear_35 : decode cX5_clear 35 = .ok (.iconst 1, 1) := by decide +kernel
theorem dX5_clear_36 : decode cX5_clear 36 = .ok (.putfield 29, 3) := by decide +kernel
theorem dX5_clear_39 : decode cX5_clear 39 = .ok (.aload_n 0, 1) := by decide +kernel
theorem dX5_clear_40 : decode cX5_clear 40 = .ok (.iconst 3, 1) := by decide +kernel
theorem dX5_clear_41 : decode cX5_clear 41 = .ok (.putfield 32, 3) := by decide +kernel
theorem dX5_clear_44 : decode cX5_clear 44 = .ok (.aload_n 0, 1) := by decide +kernel
theorem dX5_clear_45 : decode cX5_clear 45 = .ok (.bipush 99, 2) := by decide +kernel
theorem dX5_clear_47 : decode cX5_clear 47 = .ok (.putfield 35, 3) := by decide +kernel
theorem dX5_clear_50 : decode cX5_clear 50 = .ok (.aload_n 0, 1) := by decide +kernel
theorem dX5_clear_51 : decode cX5_clear 51 = .ok (.iconst 0, 1) := by decide +kernel
theorem dX5_clear_52 : decode cX5_clear 52 = .ok (.putfield 38, 3) := by decide +kernel
theorem dX5_clear_55 : decode cX5_clear 55 = .ok (.aload_n 0, 1) := by decide +kernel
theorem dX5_clear_56 : decode cX5_clear 56 = .ok (.iconst 0, 1) := by decide +kernel
theorem dX5_clear_57 : decode cX5_clear 57 = .ok (.putfield 41, 3) := by decide +kernel
theorem dX5_clear_60 : decode cX5_clear 60 = .ok (.aload_n 0, 1) := by decide +kernel
theorem dX5_clear_61 : decode cX5_clear 61 = .ok (.iconst 0, 1) := by decide +kernel
theorem dX5_clear_62 : decode cX5_clear 62 = .ok (.putfield 44, 3) := by decide +kernel
theorem dX5_clear_65 : decode cX5_clear 65 = .ok (.aload_n 0, 1) := by decide +kernel
theorem dX5_clear_66 : decode cX5_clear 66 = .ok (.iconst 0, 1) := by decide +kernel
theorem dX5_clear_67 : decode cX5_clear 67 = .ok (.putfield 47, 3) := by decide +kernel
theorem dX5_clear_70 : decode cX5_clear 70 = .ok (.aload_n 0, 1) := by decide +kernel
theorem dX5_clear_71 : decode cX5_clear 71 = .ok (.iconst 0, 1) := by decide +kernel
theorem dX5_clear_72 : decode cX5_clear 72 = .ok (.putfield 50, 3) := by decide +kernel
theorem dX5_clear_75 : decode cX5_clear 75 = .ok (.return_, 1) := by decide +kernel
theorem dX5_copyFrom_0 : decode cX5_copyFrom 0 = .ok (.aload_n 0, 1) := by decide +kernel
theorem dX5_copyFrom_1 : decode cX5_copyFrom 1 = .ok (.aload_n 1, 1) := by decide +kernel
theorem dX5_copyFrom_2 : decode cX5_copyFrom 2 = .ok (.getfield 25, 3) := by decide +kernel
theorem dX5_copyFrom_5 : decode cX5_copyFrom 5 = .ok (.putfield 25, 3) := by decide +kernel
theorem dX5_copyFrom_8 : decode cX5_copyFrom 8 = .ok (.aload_n 0, 1) := by decide +kernel
theorem dX5_copyFrom_9 : decode cX5_copyFrom 9 = .ok (.aload_n 1, 1) := by decide +kernel
theorem dX5_copyFrom_10 : decode cX5_copyFrom 10 = .ok (.getfield 32, 3) := by decide +kernel
theorem dX5_copyFrom_13 : decode cX5_copyFrom 13 = .ok (.putfield 32, 3) := by decide +kernel
theorem dX5_copyFrom_16 : decode cX5_copyFrom 16 = .ok (.aload_n 0, 1) := by decide +kernel
theorem dX5_copyFrom_17 : decode cX5_copyFrom 17 = .ok (.aload_n 1, 1) := by decide +kernel
theorem dX5_copyFrom_18 : decode cX5_copyFrom 18 = .ok (.getfield 35, 3) := by decide +kernel
theorem dX5_copyFrom_21 : decode cX5_copyFrom 21 = .ok (.putfield 35, 3) := by decide +kernel
theorem dX5_copyFrom_24 : decode cX5_copyFrom 24 = .ok (.aload_n 0, 1) := by decide +kernel
theorem dX5_copyFrom_25 : decode cX5_copyFrom 25 = .ok (.aload_n 1, 1) := by decide +kernel
theorem dX5_copyFrom_26 : decode cX5_copyFrom 26 = .ok (.getfield 38, 3) := by decide +kernel
theorem dX5_copyFrom_29 : decode cX5_copyFrom 29 = .ok (.putfield 38, 3) := by decide +kernel
theorem dX5_copyFrom_32 : decode cX5_copyFrom 32 = .ok (.aload_n 0, 1) := by decide +kernel
theorem dX5_copyFrom_33 : decode cX5_copyFrom 33 = .ok (.aload_n 1, 1) := by decide +kernel
theorem dX5_copyFrom_34 : decode cX5_copyFrom 34 = .ok (.getfield 29, 3) := by decide +kernel
theorem dX5_copyFrom_37 : decode cX5_copyFrom 37 = .ok (.putfield 29, 3) := by decide +kernel
theorem dX5_copyFrom_40 : decode cX5_copyFrom 40 = .ok (.aload_n 0, 1) := by decide +kernel
theorem dX5_copyFrom_41 : decode cX5_copyFrom 41 = .ok (.aload_n 1, 1) := by decide +kernel
theorem dX5_copyFrom_42 : decode cX5_copyFrom 42 = .ok (.getfield 41, 3) := by decide +kernel
theorem dX5_copyFrom_45 : decode cX5_copyFrom 45 = .ok (.putfield 41, 3) := by decide +kernel
theorem dX5_copyFrom_48 : decode cX5_copyFrom 48 = .ok (.aload_n 0, 1) := by decide +kernel
theorem dX5_copyFrom_49 : decode cX5_copyFrom 49 = .ok (.aload_n 1, 1) := by decide +kernel
theorem dX5_copyFrom_50 : decode cX5_copyFrom 50 = .ok (.getfield 44, 3) := by decide +kernel
theorem dX5_copyFrom_53 : decode cX5_copyFrom 53 = .ok (.putfield 44, 3) := by decide +kernel
theorem dX5_copyFrom_56 : decode cX5_copyFrom 56 = .ok (.aload_n 0, 1) := by decide +kernel
theorem dX5_copyFrom_57 : decode cX5_copyFrom 57 = .ok (.aload_n 1, 1) := by decide +kernel
theorem dX5_copyFrom_58 : decode cX5_copyFrom 58 = .ok (.getfield 47, 3) := by decide +kernel
theorem dX5_copyFrom_61 : decode cX5_copyFrom 61 = .ok (.putfield 47, 3) := by decide +kernel
theorem dX5_copyFrom_64 : decode cX5_copyFrom 64 = .ok (.aload_n 0, 1) := by decide +kernel
theorem dX5_copyFrom_65 : decode cX5_copyFrom 65 = .ok (.aload_n 1, 1) := by decide +kernel
theorem dX5_copyFrom_66 : decode cX5_copyFrom 66 = .ok (.getfield 50, 3) := by decide +kernel
theorem dX5_copyFrom_69 : decode cX5_copyFrom 69 = .ok (.putfield 50, 3) := by decide +kernel
theorem dX5_copyFrom_72 : decode cX5_copyFrom 72 = .ok (.iconst 0, 1) := by decide +kernel
theorem dX5_copyFrom_73 : decode cX5_copyFrom 73 = .ok (.istore_n 2, 1) := by decide +kernel
theorem dX5_copyFrom_74 : decode cX5_copyFrom 74 = .ok (.iload_n 2, 1) := by decide +kernel
theorem dX5_copyFrom_75 : decode cX5_copyFrom 75 = .ok (.iconst 4, 1) := by decide +kernel
theorem dX5_copyFrom_76 : decode cX5_copyFrom 76 = .ok (.if_icmp .ge 21, 3) := by decide +kernel
theorem dX5_copyFrom_79 : decode cX5_copyFrom 79 = .ok (.aload_n 0, 1) := by decide +kernel
theorem dX5_copyFrom_80 : decode cX5_copyFrom 80 = .ok (.getfield 9, 3) := by decide +kernel
theorem dX5_copyFrom_83 : decode cX5_copyFrom 83 = .ok (.iload_n 2, 1) := by decide +kernel
theorem dX5_copyFrom_84 : decode cX5_copyFrom 84 = .ok (.aload_n 1, 1) := by decide +kernel
theorem dX5_copyFrom_85 : decode cX5_copyFrom 85 = .ok (.getfield 9, 3) := by decide +kernel
theorem dX5_copyFrom_88 : decode cX5_copyFrom 88 = .ok (.iload_n 2, 1) := by decide +kernel
theorem dX5_copyFrom_89 : decode cX5_copyFrom 89 = .ok (.iaload, 1) := by decide +kernel
theorem dX5_copyFrom_90 : decode cX5_copyFrom 90 = .ok (.iastore, 1) := by decide +kernel
theorem dX5_copyFrom_91 : decode cX5_copyFrom 91 = .ok (.iinc 2 1, 3) := by decide +kernel
theorem dX5_copyFrom_94 : decode cX5_copyFrom 94 = .ok (.goto (-20), 3) := by decide +kernel
theorem dX5_copyFrom_97 : decode cX5_copyFrom 97 = .ok (.iconst 0, 1) := by decide +kernel
theorem dX5_copyFrom_98 : decode cX5_copyFrom 98 = .ok (.istore_n 2, 1) := by decide +kernel
theorem dX5_copyFrom_99 : decode cX5_copyFrom 99 = .ok (.iload_n 2, 1) := by decide +kernel
theorem dX5_copyFrom_100 : decode cX5_copyFrom 100 = .ok (.aload_n 0, 1) := by decide +kernel
theorem dX5_copyFrom_101 : decode cX5_copyFrom 101 = .ok (.getfield 25, 3) := by decide +kernel
theorem dX5_copyFrom_104 : decode cX5_copyFrom 104 = .ok (.if_icmp .ge 24, 3) := by decide +kernel
theorem dX5_copyFrom_107 : decode cX5_copyFrom 107 = .ok (.aload_n 0, 1) := by decide +kernel
theorem dX5_copyFrom_108 : decode cX5_copyFrom 108 = .ok (.getfield 17, 3) := by decide +kernel
theorem dX5_copyFrom_111 : decode cX5_copyFrom 111 = .ok (.iload_n 2, 1) := by decide +kernel
theorem dX5_copyFrom_112 : decode cX5_copyFrom 112 = .ok (.aaload, 1) := by decide +kernel
theorem dX5_copyFrom_113 : decode cX5_copyFrom 113 = .ok (.aload_n 1, 1) := by decide +kernel
theorem dX5_copyFrom_114 : decode cX5_copyFrom 114 = .ok (.getfield 17, 3) := by decide +kernel
theorem dX5_copyFrom_117 : decode cX5_copyFrom 117 = .ok (.iload_n 2, 1) := by decide +kernel
theorem dX5_copyFrom_118 : decode cX5_copyFrom 118 = .ok (.aaload, 1) := by decide +kernel
theorem dX5_copyFrom_119 : decode cX5_copyFrom 119 = .ok (.invokevirtual 53, 3) := by decide +kernel
theorem dX5_copyFrom_122 : decode cX5_copyFrom 122 = .ok (.iinc 2 1, 3) := by decide +kernel
theorem dX5_copyFrom_125 : decode cX5_copyFrom 125 = .ok (.goto (-26), 3) := by decide +kernel
theorem dX5_copyFrom_128 : decode cX5_copyFrom 128 = .ok (.return_, 1) := by decide +kernel
theorem dJ6_bitCount_0f7a4_0 : decode cJ6_bitCount_0f7a4 0 = .ok (.iload_n 0, 1) := by decide +kernel
theorem dJ6_bitCount_0f7a4_1 : decode cJ6_bitCount_0f7a4 1 = .ok (.iload_n 0, 1) := by decide +kernel
theorem dJ6_bitCount_0f7a4_2 : decode cJ6_bitCount_0f7a4 2 = .ok (.iconst 1, 1) := by decide +kernel
theorem dJ6_bitCount_0f7a4_3 : decode cJ6_bitCount_0f7a4 3 = .ok (.iushr, 1) := by decide +kernel
theorem dJ6_bitCount_0f7a4_4 : decode cJ6_bitCount_0f7a4 4 = .ok (.ldc_w 265, 3) := by decide +kernel
theorem dJ6_bitCount_0f7a4_7 : decode cJ6_bitCount_0f7a4 7 = .ok (.iand, 1) := by decide +kernel
theorem dJ6_bitCount_0f7a4_8 : decode cJ6_bitCount_0f7a4 8 = .ok (.isub, 1) := by decide +kernel
theorem dJ6_bitCount_0f7a4_9 : decode cJ6_bitCount_0f7a4 9 = .ok (.istore_n 0, 1) := by decide +kernel
theorem dJ6_bitCount_0f7a4_10 : decode cJ6_bitCount_0f7a4 10 = .ok (.iload_n 0, 1) := by decide +kernel
theorem dJ6_bitCount_0f7a4_11 : decode cJ6_bitCount_0f7a4 11 = .ok (.ldc_w 266, 3) := by decide +kernel
theorem dJ6_bitCount_0f7a4_14 : decode cJ6_bitCount_0f7a4 14 = .ok (.iand, 1) := by decide +kernel
theorem dJ6_bitCount_0f7a4_15 : decode cJ6_bitCount_0f7a4 15 = .ok (.iload_n 0, 1) := by decide +kernel
theorem dJ6_bitCount_0f7a4_16 : decode cJ6_bitCount_0f7a4 16 = .ok (.iconst 2, 1) := by decide +kernel
theorem dJ6_bitCount_0f7a4_17 : decode cJ6_bitCount_0f7a4 17 = .ok (.iushr, 1) := by decide +kernel
theorem dJ6_bitCount_0f7a4_18 : decode cJ6_bitCount_0f7a4 18 = .ok (.ldc_w 266, 3) := by decide +kernel
theorem dJ6_bitCount_0f7a4_21 : decode cJ6_bitCount_0f7a4 21 = .ok (.iand, 1) := by decide +kernel
theorem dJ6_bitCount_0f7a4_22 : decode cJ6_bitCount_0f7a4 22 = .ok (.iadd, 1) := by decide +kernel
theorem dJ6_bitCount_0f7a4_23 : decode cJ6_bitCount_0f7a4 23 = .ok (.istore_n 0, 1) := by decide +kernel
theorem dJ6_bitCount_0f7a4_24 : decode cJ6_bitCount_0f7a4 24 = .ok (.iload_n 0, 1) := by decide +kernel
theorem dJ6_bitCount_0f7a4_25 : decode cJ6_bitCount_0f7a4 25 = .ok (.iload_n 0, 1) := by decide +kernel
theorem dJ6_bitCount_0f7a4_26 : decode cJ6_bitCount_0f7a4 26 = .ok (.iconst 4, 1) := by decide +kernel
theorem dJ6_bitCount_0f7a4_27 : decode cJ6_bitCount_0f7a4 27 = .ok (.iushr, 1) := by decide +kernel
theorem dJ6_bitCount_0f7a4_28 : decode cJ6_bitCount_0f7a4 28 = .ok (.iadd, 1) := by decide +kernel
theorem dJ6_bitCount_0f7a4_29 : decode cJ6_bitCount_0f7a4 29 = .ok (.ldc_w 267, 3) := by decide +kernel
theorem dJ6_bitCount_0f7a4_32 : decode cJ6_bitCount_0f7a4 32 = .ok (.iand, 1) := by decide +kernel
theorem dJ6_bitCount_0f7a4_33 : decode cJ6_bitCount_0f7a4 33 = .ok (.istore_n 0, 1) := by decide +kernel
theorem dJ6_bitCount_0f7a4_34 : decode cJ6_bitCount_0f7a4 34 = .ok (.iload_n 0, 1) := by decide +kernel
theorem dJ6_bitCount_0f7a4_35 : decode cJ6_bitCount_0f7a4 35 = .ok (.iload_n 0, 1) := by decide +kernel
theorem dJ6_bitCount_0f7a4_36 : decode cJ6_bitCount_0f7a4 36 = .ok (.bipush 8, 2) := by decide +kernel
theorem dJ6_bitCount_0f7a4_38 : decode cJ6_bitCount_0f7a4 38 = .ok (.iushr, 1) := by decide +kernel
theorem dJ6_bitCount_0f7a4_39 : decode cJ6_bitCount_0f7a4 39 = .ok (.iadd, 1) := by decide +kernel
theorem dJ6_bitCount_0f7a4_40 : decode cJ6_bitCount_0f7a4 40 = .ok (.istore_n 0, 1) := by decide +kernel
theorem dJ6_bitCount_0f7a4_41 : decode cJ6_bitCount_0f7a4 41 = .ok (.iload_n 0, 1) := by decide +kernel
theorem dJ6_bitCount_0f7a4_42 : decode cJ6_bitCount_0f7a4 42 = .ok (.iload_n 0, 1) := by decide +kernel
theorem dJ6_bitCount_0f7a4_43 : decode cJ6_bitCount_0f7a4 43 = .ok (.bipush 16, 2) := by decide +kernel
theorem dJ6_bitCount_0f7a4_45 : decode cJ6_bitCount_0f7a4 45 = .ok (.iushr, 1) := by decide +kernel
theorem dJ6_bitCount_0f7a4_46 : decode cJ6_bitCount_0f7a4 46 = .ok (.iadd, 1) := by decide +kernel
theorem dJ6_bitCount_0f7a4_47 : decode cJ6_bitCount_0f7a4 47 = .ok (.istore_n 0, 1) := by decide +kernel
theorem dJ6_bitCount_0f7a4_48 : decode cJ6_bitCount_0f7a4 48 = .ok (.iload_n 0, 1) := by decide +kernel
theorem dJ6_bitCount_0f7a4_49 : decode cJ6_bitCount_0f7a4 49 = .ok (.bipush 63, 2) := by decide +kernel
theorem dJ6_bitCount_0f7a4_51 : decode cJ6_bitCount_0f7a4 51 = .ok (.iand, 1) := by decide +kernel
theorem dJ6_bitCount_0f7a4_52 : decode cJ6_bitCount_0f7a4 52 = .ok (.ireturn, 1) := by decide +kernel
theorem dX5_nearPairs_0 : decode cX5_nearPairs 0 = .ok (.iconst 0, 1) := by decide +kernel
theorem dX5_nearPairs_1 : decode cX5_nearPairs 1 = .ok (.istore_n 1, 1) := by decide +kernel
theorem dX5_nearPairs_2 : decode cX5_nearPairs 2 = .ok (.iconst 0, 1) := by decide +kernel
theorem dX5_nearPairs_3 : decode cX5_nearPairs 3 = .ok (.istore_n 2, 1) := by decide +kernel
theorem dX5_nearPairs_4 : decode cX5_nearPairs 4 = .ok (.iload_n 2, 1) := by decide +kernel
theorem dX5_nearPairs_5 : decode cX5_nearPairs 5 = .ok (.aload_n 0, 1) := by decide +kernel
theorem dX5_nearPairs_6 : decode cX5_nearPairs 6 = .ok (.getfield 25, 3) := by decide +kernel
theorem dX5_nearPairs_9 : decode cX5_nearPairs 9 = .ok (.if_icmp .ge 24, 3) := by decide +kernel
theorem dX5_nearPairs_12 : decode cX5_nearPairs 12 = .ok (.iload_n 1, 1) := by decide +kernel
theorem dX5_nearPairs_13 : decode cX5_nearPairs 13 = .ok (.aload_n 0, 1) := by decide +kernel
theorem dX5_nearPairs_14 : decode cX5_nearPairs 14 = .ok (.getfield 17, 3) := by decide +kernel
theorem dX5_nearPairs_17 : decode cX5_nearPairs 17 = .ok (.iload_n 2, 1) := by decide +kernel
theorem dX5_nearPairs_18 : decode cX5_nearPairs 18 = .ok (.aaload, 1) := by decide +kernel
theorem dX5_nearPairs_19 : decode cX5_nearPairs 19 = .ok (.getfield 61, 3) := by decide +kernel
theorem dX5_nearPairs_22 : decode cX5_nearPairs 22 = .ok (.invokestatic 64, 3) := by decide +kernel
theorem dX5_nearPairs_25 : decode cX5_nearPairs 25 = .ok (.iadd, 1) := by decide +kernel
theorem dX5_nearPairs_26 : decode cX5_nearPairs 26 = .ok (.istore_n 1, 1) := by decide +kernel
theorem dX5_nearPairs_27 : decode cX5_nearPairs 27 = .ok (.iinc 2 1, 3) := by decide +kernel
theorem dX5_nearPairs_30 : decode cX5_nearPairs 30 = .ok (.goto (-26), 3) := by decide +kernel
theorem dX5_nearPairs_33 : decode cX5_nearPairs 33 = .ok (.iload_n 1, 1) := by decide +kernel
theorem dX5_nearPairs_34 : decode cX5_nearPairs 34 = .ok (.ireturn, 1) := by decide +kernel
theorem dX5_inState_0 : decode cX5_inState 0 = .ok (.iconst 0, 1) := by decide +kernel
theorem dX5_inState_1 : decode cX5_inState 1 = .ok (.istore_n 2, 1) := by decide +kernel
theorem dX5_inState_2 : decode cX5_inState 2 = .ok (.iconst 0, 1) := by decide +kernel
theorem dX5_inState_3 : decode cX5_inState 3 = .ok (.istore_n 3, 1) := by decide +kernel
theorem dX5_inState_4 : decode cX5_inState 4 = .ok (.iload_n 3, 1) := by decide +kernel
theorem dX5_inState_5 : decode cX5_inState 5 = .ok (.aload_n 0, 1) := by decide +kernel
theorem dX5_inState_6 : decode cX5_inState 6 = .ok (.getfield 25, 3) := by decide +kernel
theorem dX5_inState_9 : decode cX5_inState 9 = .ok (.if_icmp .ge 28, 3) := by decide +kernel
theorem dX5_inState_12 : decode cX5_inState 12 = .ok (.aload_n 0, 1) := by decide +kernel
theorem dX5_inState_13 : decode cX5_inState 13 = .ok (.getfield 17, 3) := by decide +kernel
theorem dX5_inState_16 : decode cX5_inState 16 = .ok (.iload_n 3, 1) := by decide +kernel
theorem dX5_inState_17 : decode cX5_inState 17 = .ok (.aaload, 1) := by decide +kernel
theorem dX5_inState_18 : decode cX5_inState 18 = .ok (.getfield 70, 3) := by decide +kernel
theorem dX5_inState_21 : decode cX5_inState 21 = .ok (.iload_n 1, 1) := by decide +kernel
theorem dX5_inState_22 : decode cX5_inState 22 = .ok (.if_icmp .ne 9, 3) := by decide +kernel
theorem dX5_inState_25 : decode cX5_inState 25 = .ok (.iload_n 2, 1) := by decide +kernel
theorem dX5_inState_26 : decode cX5_inState 26 = .ok (.iconst 1, 1) := by decide +kernel
theorem dX5_inState_27 : decode cX5_inState 27 = .ok (.iload_n 3, 1) := by decide +kernel
theorem dX5_inState_28 : decode cX5_inState 28 = .ok (.ishl, 1) := by decide +kernel
theorem dX5_inState_29 : decode cX5_inState 29 = .ok (.ior, 1) := by decide +kernel
theorem dX5_inState_30 : decode cX5_inState 30 = .ok (.istore_n 2, 1) := by decide +kernel
theorem dX5_inState_31 : decode cX5_inState 31 = .ok (.iinc 3 1, 3) := by decide +kernel
theorem dX5_inState_34 : decode cX5_inState 34 = .ok (.goto (-30), 3) := by decide +kernel
theorem dX5_inState_37 : decode cX5_inState 37 = .ok (.iload_n 2, 1) := by decide +kernel
theorem dX5_inState_38 : decode cX5_inState 38 = .ok (.ireturn, 1) := by decide +kernel
theorem dX5_outCount_0 : decode cX5_outCount 0 = .ok (.aload_n 0, 1) := by decide +kernel
theorem dX5_outCount_1 : decode cX5_outCount 1 = .ok (.iconst 4, 1) := by decide +kernel
theorem dX5_outCount_2 : decode cX5_outCount 2 = .ok (.invokevirtual 73, 3) := by decide +kernel
theorem dX5_outCount_5 : decode cX5_outCount 5 = .ok (.invokestatic 64, 3) := by decide +kernel
theorem dX5_outCount_8 : decode cX5_outCount 8 = .ok (.ireturn, 1) := by decide +kernel
theorem dX5_knownTo_0 : decode cX5_knownTo 0 = .ok (.iconst 0, 1) := by decide +kernel
theorem dX5_knownTo_1 : decode cX5_knownTo 1 = .ok (.istore_n 2, 1) := by decide +kernel
theorem dX5_knownTo_2 : decode cX5_knownTo 2 = .ok (.iconst 0, 1) := by decide +kernel
theorem dX5_knownTo_3 : decode cX5_knownTo 3 = .ok (.istore_n 3, 1) := by decide +kernel
theorem dX5_knownTo_4 : decode cX5_knownTo 4 = .ok (.iload_n 3, 1) := by decide +kernel
theorem dX5_knownTo_5 : decode cX5_knownTo 5 = .ok (.aload_n 0, 1) := by decide +kernel
theorem dX5_knownTo_6 : decode cX5_knownTo 6 = .ok (.getfield 25, 3) := by decide +kernel
theorem dX5_knownTo_9 : decode cX5_knownTo 9 = .ok (.if_icmp .ge 43, 3) := by decide +kernel
theorem dX5_knownTo_12 : decode cX5_knownTo 12 = .ok (.aload_n 1, 1) := by decide +kernel
theorem dX5_knownTo_13 : decode cX5_knownTo 13 = .ok (.getfield 76, 3) := by decide +kernel
theorem dX5_knownTo_16 : decode cX5_knownTo 16 = .ok (.iload_n 3, 1) := by decide +kernel
theorem dX5_knownTo_17 : decode cX5_knownTo 17 = .ok (.iaload, 1) := by decide +kernel
theorem dX5_knownTo_18 : decode cX5_knownTo 18 = .ok (.istore 4, 2) := by decide +kernel
theorem dX5_knownTo_20 : decode cX5_knownTo 20 = .ok (.iload 4, 2) := by decide +kernel
theorem dX5_knownTo_22 : decode cX5_knownTo 22 = .ok (.iconst (-1), 1) := by decide +kernel
theorem dX5_knownTo_23 : decode cX5_knownTo 23 = .ok (.if_icmp .eq 23, 3) := by decide +kernel
theorem dX5_knownTo_26 : decode cX5_knownTo 26 = .ok (.aload_n 0, 1) := by decide +kernel
theorem dX5_knownTo_27 : decode cX5_knownTo 27 = .ok (.getfield 38, 3) := by decide +kernel
theorem dX5_knownTo_30 : decode cX5_knownTo 30 = .ok (.iload 4, 2) := by decide +kernel
theorem dX5_knownTo_32 : decode cX5_knownTo 32 = .ok (.isub, 1) := by decide +kernel
theorem dX5_knownTo_33 : decode cX5_knownTo 33 = .ok (.aload_n 0, 1) := by decide +kernel
theorem dX5_knownTo_34 : decode cX5_knownTo 34 = .ok (.getfield 35, 3) := by decide +kernel
theorem dX5_knownTo_37 : decode cX5_knownTo 37 = .ok (.if_icmp .gt 9, 3) := by decide +kernel
theorem dX5_knownTo_40 : decode cX5_knownTo 40 = .ok (.iload_n 2, 1) := by decide +kernel
theorem dX5_knownTo_41 : decode cX5_knownTo 41 = .ok (.iconst 1, 1) := by decide +kernel
theorem dX5_knownTo_42 : decode cX5_knownTo 42 = .ok (.iload_n 3, 1) := by decide +kernel
theorem dX5_knownTo_43 : decode cX5_knownTo 43 = .ok (.ishl, 1) := by decide +kernel
theorem dX5_knownTo_44 : decode cX5_knownTo 44 = .ok (.ior, 1) := by decide +kernel
theorem dX5_knownTo_45 : decode cX5_knownTo 45 = .ok (.istore_n 2, 1) := by decide +kernel
theorem dX5_knownTo_46 : decode cX5_knownTo 46 = .ok (.iinc 3 1, 3) := by decide +kernel
theorem dX5_knownTo_49 : decode cX5_knownTo 49 = .ok (.goto (-45), 3) := by decide +kernel
theorem dX5_knownTo_52 : decode cX5_knownTo 52 = .ok (.iload_n 2, 1) := by decide +kernel
theorem dX5_knownTo_53 : decode cX5_knownTo 53 = .ok (.ireturn, 1) := by decide +kernel
theorem dX5_isAllKnown_0 : decode cX5_isAllKnown 0 = .ok (.iconst 0, 1) := by decide +kernel
theorem dX5_isAllKnown_1 : decode cX5_isAllKnown 1 = .ok (.istore_n 1, 1) := by decide +kernel
theorem dX5_isAllKnown_2 : decode cX5_isAllKnown 2 = .ok (.iload_n 1, 1) := by decide +kernel
theorem dX5_isAllKnown_3 : decode cX5_isAllKnown 3 = .ok (.aload_n 0, 1) := by decide +kernel
theorem dX5_isAllKnown_4 : decode cX5_isAllKnown 4 = .ok (.getfield 25, 3) := by decide +kernel
theorem dX5_isAllKnown_7 : decode cX5_isAllKnown 7 = .ok (.if_icmp .ge 36, 3) := by decide +kernel
theorem dX5_isAllKnown_10 : decode cX5_isAllKnown 10 = .ok (.aload_n 0, 1) := by decide +kernel
theorem dX5_isAllKnown_11 : decode cX5_isAllKnown 11 = .ok (.getfield 17, 3) := by decide +kernel
theorem dX5_isAllKnown_14 : decode cX5_isAllKnown 14 = .ok (.iload_n 1, 1) := by decide +kernel
theorem dX5_isAllKnown_15 : decode cX5_isAllKnown 15 = .ok (.aaload, 1) := by decide +kernel
theorem dX5_isAllKnown_16 : decode cX5_isAllKnown 16 = .ok (.getfield 61, 3) := by decide +kernel
theorem dX5_isAllKnown_19 : decode cX5_isAllKnown 19 = .ok (.aload_n 0, 1) := by decide +kernel
theorem dX5_isAllKnown_20 : decode cX5_isAllKnown 20 = .ok (.aload_n 0, 1) := by decide +kernel
theorem dX5_isAllKnown_21 : decode cX5_isAllKnown 21 = .ok (.getfield 17, 3) := by decide +kernel
theorem dX5_isAllKnown_24 : decode cX5_isAllKnown 24 = .ok (.iload_n 1, 1) := by decide +kernel
theorem dX5_isAllKnown_25 : decode cX5_isAllKnown 25 = .ok (.aaload, 1) := by decide +kernel
theorem dX5_isAllKnown_26 : decode cX5_isAllKnown 26 = .ok (.invokevirtual 79, 3) := by decide +kernel
theorem dX5_isAllKnown_29 : decode cX5_isAllKnown 29 = .ok (.iconst (-1), 1) := by decide +kernel
theorem dX5_isAllKnown_30 : decode cX5_isAllKnown 30 = .ok (.ixor, 1) := by decide +kernel
theorem dX5_isAllKnown_31 : decode cX5_isAllKnown 31 = .ok (.iand, 1) := by decide +kernel
theorem dX5_isAllKnown_32 : decode cX5_isAllKnown 32 = .ok (.ifCond .eq 5, 3) := by decide +kernel
theorem dX5_isAllKnown_35 : decode cX5_isAllKnown 35 = .ok (.iconst 0, 1) := by decide +kernel
theorem dX5_isAllKnown_36 : decode cX5_isAllKnown 36 = .ok (.ireturn, 1) := by decide +kernel
theorem dX5_isAllKnown_37 : decode cX5_isAllKnown 37 = .ok (.iinc 1 1, 3) := by decide +kernel
theorem dX5_isAllKnown_40 : decode cX5_isAllKnown 40 = .ok (.goto (-38), 3) := by decide +kernel
theorem dX5_isAllKnown_43 : decode cX5_isAllKnown 43 = .ok (.iconst 1, 1) := by decide +kernel
theorem dX5_isAllKnown_44 : decode cX5_isAllKnown 44 = .ok (.ireturn, 1) := by decide +kernel
theorem dX6_isIn_0 : decode cX6_isIn 0 = .ok (.iload_n 0, 1) := by decide +kernel
theorem dX6_isIn_1 : decode cX6_isIn 1 = .ok (.iload_n 1, 1) := by decide +kernel
theorem dX6_isIn_2 : decode cX6_isIn 2 = .ok (.ishr, 1) := by decide +kernel
theorem dX6_isIn_3 : decode cX6_isIn 3 = .ok (.iconst 1, 1) := by decide +kernel
theorem dX6_isIn_4 : decode cX6_isIn 4 = .ok (.iand, 1) := by decide +kernel
theorem dX6_isIn_5 : decode cX6_isIn 5 = .ok (.ifCond .eq 7, 3) := by decide +kernel
theorem dX6_isIn_8 : decode cX6_isIn 8 = .ok (.iconst 1, 1) := by decide +kernel
theorem dX6_isIn_9 : decode cX6_isIn 9 = .ok (.goto 4, 3) := by decide +kernel
theorem dX6_isIn_12 : decode cX6_isIn 12 = .ok (.iconst 0, 1) := by decide +kernel
theorem dX6_isIn_13 : decode cX6_isIn 13 = .ok (.ireturn, 1) := by decide +kernel
theorem dX5_withNear_0 : decode cX5_withNear 0 = .ok (.iload_n 1, 1) := by decide +kernel
theorem dX5_withNear_1 : decode cX5_withNear 1 = .ok (.istore_n 2, 1) := by decide +kernel
theorem dX5_withNear_2 : decode cX5_withNear 2 = .ok (.iconst 0, 1) := by decide +kernel
theorem dX5_withNear_3 : decode cX5_withNear 3 = .ok (.istore_n 3, 1) := by decide +kernel
theorem dX5_withNear_4 : decode cX5_withNear 4 = .ok (.iload_n 3, 1) := by decide +kernel
theorem dX5_withNear_5 : decode cX5_withNear 5 = .ok (.aload_n 0, 1) := by decide +kernel
theorem dX5_withNear_6 : decode cX5_withNear 6 = .ok (.getfield 25, 3) := by decide +kernel
theorem dX5_withNear_9 : decode cX5_withNear 9 = .ok (.if_icmp .ge 29, 3) := by decide +kernel
theorem dX5_withNear_12 : decode cX5_withNear 12 = .ok (.iload_n 1, 1) := by decide +kernel
theorem dX5_withNear_13 : decode cX5_withNear 13 = .ok (.iload_n 3, 1) := by decide +kernel
theorem dX5_withNear_14 : decode cX5_withNear 14 = .ok (.invokestatic 83, 3) := by decide +kernel
theorem dX5_withNear_17 : decode cX5_withNear 17 = .ok (.ifCond .eq 15, 3) := by decide +kernel
theorem dX5_withNear_20 : decode cX5_withNear 20 = .ok (.iload_n 2, 1) := by decide +kernel
theorem dX5_withNear_21 : decode cX5_withNear 21 = .ok (.aload_n 0, 1) := by decide +kernel
theorem dX5_withNear_22 : decode cX5_withNear 22 = .ok (.getfield 17, 3) := by decide +kernel
theorem dX5_withNear_25 : decode cX5_withNear 25 = .ok (.iload_n 3, 1) := by decide +kernel
theorem dX5_withNear_26 : decode cX5_withNear 26 = .ok (.aaload, 1) := by decide +kernel
theorem dX5_withNear_27 : decode cX5_withNear 27 = .ok (.getfield 61, 3) := by decide +kernel
theorem dX5_withNear_30 : decode cX5_withNear 30 = .ok (.ior, 1) := by decide +kernel
theorem dX5_withNear_31 : decode cX5_withNear 31 = .ok (.istore_n 2, 1) := by decide +kernel
theorem dX5_withNear_32 : decode cX5_withNear 32 = .ok (.iinc 3 1, 3) := by decide +kernel
theorem dX5_withNear_35 : decode cX5_withNear 35 = .ok (.goto (-31), 3) := by decide +kernel
theorem dX5_withNear_38 : decode cX5_withNear 38 = .ok (.iload_n 2, 1) := by decide +kernel
theorem dX5_withNear_39 : decode cX5_withNear 39 = .ok (.ireturn, 1) := by decide +kernel
theorem dX5_withAllReached_0 : decode cX5_withAllReached 0 = .ok (.iload_n 1, 1) := by decide +kernel
theorem dX5_withAllReached_1 : decode cX5_withAllReached 1 = .ok (.istore_n 2, 1) := by decide +kernel
theorem dX5_withAllReached_2 : decode cX5_withAllReached 2 = .ok (.iconst 1, 1) := by decide +kernel
theorem dX5_withAllReached_3 : decode cX5_withAllReached 3 = .ok (.istore_n 3, 1) := by decide +kernel
theorem dX5_withAllReached_4 : decode cX5_withAllReached 4 = .ok (.iload_n 3, 1) := by decide +kernel
theorem dX5_withAllReached_5 : decode cX5_withAllReached 5 = .ok (.bipush 8, 2) := by decide +kernel
theorem dX5_withAllReached_7 : decode cX5_withAllReached 7 = .ok (.if_icmp .ge 15, 3) := by decide +kernel
theorem dX5_withAllReached_10 : decode cX5_withAllReached 10 = .ok (.aload_n 0, 1) := by decide +kernel
theorem dX5_withAllReached_11 : decode cX5_withAllReached 11 = .ok (.iload_n 2, 1) := by decide +kernel
theorem dX5_withAllReached_12 : decode cX5_withAllReached 12 = .ok (.invokevirtual 87, 3) := by decide +kernel
theorem dX5_withAllReached_15 : decode cX5_withAllReached 15 = .ok (.istore_n 2, 1) := by decide +kernel
theorem dX5_withAllReached_16 : decode cX5_withAllReached 16 = .ok (.iinc 3 1, 3) := by decide +kernel
theorem dX5_withAllReached_19 : decode cX5_withAllReached 19 = .ok (.goto (-15), 3) := by decide +kernel
theorem dX5_withAllReached_22 : decode cX5_withAllReached 22 = .ok (.iload_n 2, 1) := by decide +kernel
theorem dX5_withAllReached_23 : decode cX5_withAllReached 23 = .ok (.ireturn, 1) := by decide +kernel
theorem dX5_switchNear_0 : decode cX5_switchNear 0 = .ok (.aload_n 0, 1) := by decide +kernel
theorem dX5_switchNear_1 : decode cX5_switchNear 1 = .ok (.getfield 17, 3) := by decide +kernel
theorem dX5_switchNear_4 : decode cX5_switchNear 4 = .ok (.iload_n 1, 1) := by decide +kernel
theorem dX5_switchNear_5 : decode cX5_switchNear 5 = .ok (.aaload, 1) := by decide +kernel
theorem dX5_switchNear_6 : decode cX5_switchNear 6 = .ok (.dup, 1) := by decide +kernel
theorem dX5_switchNear_7 : decode cX5_switchNear 7 = .ok (.getfield 61, 3) := by decide +kernel
theorem dX5_switchNear_10 : decode cX5_switchNear 10 = .ok (.iconst 1, 1) := by decide +kernel
theorem dX5_switchNear_11 : decode cX5_switchNear 11 = .ok (.iload_n 2, 1) := by decide +kernel
theorem dX5_switchNear_12 : decode cX5_switchNear 12 = .ok (.ishl, 1) := by decide +kernel
theorem dX5_switchNear_13 : decode cX5_switchNear 13 = .ok (.ixor, 1) := by decide +kernel
theorem dX5_switchNear_14 : decode cX5_switchNear 14 = .ok (.putfield 61, 3) := by decide +kernel
theorem dX5_switchNear_17 : decode cX5_switchNear 17 = .ok (.aload_n 0, 1) := by decide +kernel
theorem dX5_switchNear_18 : decode cX5_switchNear 18 = .ok (.getfield 17, 3) := by decide +kernel
theorem dX5_switchNear_21 : decode cX5_switchNear 21 = .ok (.iload_n 2, 1) := by decide +kernel
theorem dX5_switchNear_22 : decode cX5_switchNear 22 = .ok (.aaload, 1) := by decide +kernel
theorem dX5_switchNear_23 : decode cX5_switchNear 23 = .ok (.dup, 1) := by decide +kernel
theorem dX5_switchNear_24 : decode cX5_switchNear 24 = .ok (.getfield 61, 3) := by decide +kernel
theorem dX5_switchNear_27 : decode cX5_switchNear 27 = .ok (.iconst 1, 1) := by decide +kernel
theorem dX5_switchNear_28 : decode cX5_switchNear 28 = .ok (.iload_n 1, 1) := by decide +kernel
theorem dX5_switchNear_29 : decode cX5_switchNear 29 = .ok (.ishl, 1) := by decide +kernel
theorem dX5_switchNear_30 : decode cX5_switchNear 30 = .ok (.ixor, 1) := by decide +kernel
theorem dX5_switchNear_31 : decode cX5_switchNear 31 = .ok (.putfield 61, 3) := by decide +kernel
theorem dX5_switchNear_34 : decode cX5_switchNear 34 = .ok (.return_, 1) := by decide +kernel
theorem dX5_mayPass_0 : decode cX5_mayPass 0 = .ok (.iload_n 1, 1) := by decide +kernel
theorem dX5_mayPass_1 : decode cX5_mayPass 1 = .ok (.iconst 1, 1) := by decide +kernel
theorem dX5_mayPass_2 : decode cX5_mayPass 2 = .ok (.if_icmp .lt 24, 3) := by decide +kernel
theorem dX5_mayPass_5 : decode cX5_mayPass 5 = .ok (.iload_n 1, 1) := by decide +kernel
theorem dX5_mayPass_6 : decode cX5_mayPass 6 = .ok (.bipush 99, 2) := by decide +kernel
theorem dX5_mayPass_8 : decode cX5_mayPass 8 = .ok (.if_icmp .gt 18, 3) := by decide +kernel
theorem dX5_mayPass_11 : decode cX5_mayPass 11 = .ok (.aload_n 0, 1) := by decide +kernel
theorem dX5_mayPass_12 : decode cX5_mayPass 12 = .ok (.getfield 38, 3) := by decide +kernel
theorem dX5_mayPass_15 : decode cX5_mayPass 15 = .ok (.iload_n 1, 1) := by decide +kernel
theorem dX5_mayPass_16 : decode cX5_mayPass 16 = .ok (.iadd, 1) := by decide +kernel
theorem dX5_mayPass_17 : decode cX5_mayPass 17 = .ok (.ldc 90, 2) := by decide +kernel
theorem dX5_mayPass_19 : decode cX5_mayPass 19 = .ok (.if_icmp .gt 7, 3) := by decide +kernel
theorem dX5_mayPass_22 : decode cX5_mayPass 22 = .ok (.iconst 1, 1) := by decide +kernel
theorem dX5_mayPass_23 : decode cX5_mayPass 23 = .ok (.goto 4, 3) := by decide +kernel
theorem dX5_mayPass_26 : decode cX5_mayPass 26 = .ok (.iconst 0, 1) := by decide +kernel
theorem dX5_mayPass_27 : decode cX5_mayPass 27 = .ok (.ireturn, 1) := by decide +kernel
theorem dX5_wakeOrSkip_0 : decode cX5_wakeOrSkip 0 = .ok (.aload_n 1, 1) := by decide +kernel
theorem dX5_wakeOrSkip_1 : decode cX5_wakeOrSkip 1 = .ok (.getfield 119, 3) := by decide +kernel
theorem dX5_wakeOrSkip_4 : decode cX5_wakeOrSkip 4 = .ok (.ifCond .ne 33, 3) := by decide +kernel
theorem dX5_wakeOrSkip_7 : decode cX5_wakeOrSkip 7 = .ok (.aload_n 1, 1) := by decide +kernel
theorem dX5_wakeOrSkip_8 : decode cX5_wakeOrSkip 8 = .ok (.getfield 61, 3) := by decide +kernel
theorem dX5_wakeOrSkip_11 : decode cX5_wakeOrSkip 11 = .ok (.ifCond .eq 26, 3) := by decide +kernel
theorem dX5_wakeOrSkip_14 : decode cX5_wakeOrSkip 14 = .ok (.aload_n 1, 1) := by decide +kernel
theorem dX5_wakeOrSkip_15 : decode cX5_wakeOrSkip 15 = .ok (.getfield 61, 3) := by decide +kernel
theorem dX5_wakeOrSkip_18 : decode cX5_wakeOrSkip 18 = .ok (.aload_n 0, 1) := by decide +kernel
theorem dX5_wakeOrSkip_19 : decode cX5_wakeOrSkip 19 = .ok (.aload_n 1, 1) := by decide +kernel
theorem dX5_wakeOrSkip_20 : decode cX5_wakeOrSkip 20 = .ok (.invokevirtual 79, 3) := by decide +kernel
theorem dX5_wakeOrSkip_23 : decode cX5_wakeOrSkip 23 = .ok (.iconst (-1), 1) := by decide +kernel
theorem dX5_wakeOrSkip_24 : decode cX5_wakeOrSkip 24 = .ok (.ixor, 1) := by decide +kernel
theorem dX5_wakeOrSkip_25 : decode cX5_wakeOrSkip 25 = .ok (.iand, 1) := by decide +kernel
theorem dX5_wakeOrSkip_26 : decode cX5_wakeOrSkip 26 = .ok (.ifCond .ne 11, 3) := by decide +kernel
theorem dX5_wakeOrSkip_29 : decode cX5_wakeOrSkip 29 = .ok (.aload_n 1, 1) := by decide +kernel
theorem dX5_wakeOrSkip_30 : decode cX5_wakeOrSkip 30 = .ok (.iconst 1, 1) := by decide +kernel
theorem dX5_wakeOrSkip_31 : decode cX5_wakeOrSkip 31 = .ok (.putfield 119, 3) := by decide +kernel
theorem dX5_wakeOrSkip_34 : decode cX5_wakeOrSkip 34 = .ok (.goto 7, 3) := by decide +kernel
theorem dX5_wakeOrSkip_37 : decode cX5_wakeOrSkip 37 = .ok (.aload_n 1, 1) := by decide +kernel
theorem dX5_wakeOrSkip_38 : decode cX5_wakeOrSkip 38 = .ok (.invokevirtual 123, 3) := by decide +kernel
theorem dX5_wakeOrSkip_41 : decode cX5_wakeOrSkip 41 = .ok (.return_, 1) := by decide +kernel
theorem dX5_waitByDraw_0 : decode cX5_waitByDraw 0 = .ok (.aload_n 1, 1) := by decide +kernel
theorem dX5_waitByDraw_1 : decode cX5_waitByDraw 1 = .ok (.invokevirtual 129, 3) := by decide +kernel
theorem dX5_waitByDraw_4 : decode cX5_waitByDraw 4 = .ok (.istore_n 2, 1) := by decide +kernel
theorem dX5_waitByDraw_5 : decode cX5_waitByDraw 5 = .ok (.aload_n 0, 1) := by decide +kernel
theorem dX5_waitByDraw_6 : decode cX5_waitByDraw 6 = .ok (.aload_n 0, 1) := by decide +kernel
theorem dX5_waitByDraw_7 : decode cX5_waitByDraw 7 = .ok (.getfield 29, 3) := by decide +kernel
theorem dX5_waitByDraw_10 : decode cX5_waitByDraw 10 = .ok (.ldc 133, 2) := by decide +kernel
theorem dX5_waitByDraw_12 : decode cX5_waitByDraw 12 = .ok (.imul, 1) := by decide +kernel
theorem dX5_waitByDraw_13 : decode cX5_waitByDraw 13 = .ok (.sipush 12345, 3) := by decide +kernel
theorem dX5_waitByDraw_16 : decode cX5_waitByDraw 16 = .ok (.iadd, 1) := by decide +kernel
theorem dX5_waitByDraw_17 : decode cX5_waitByDraw 17 = .ok (.putfield 29, 3) := by decide +kernel
theorem dX5_waitByDraw_20 : decode cX5_waitByDraw 20 = .ok (.aload_n 1, 1) := by decide +kernel
theorem dX5_waitByDraw_21 : decode cX5_waitByDraw 21 = .ok (.iconst 2, 1) := by decide +kernel
theorem dX5_waitByDraw_22 : decode cX5_waitByDraw 22 = .ok (.putfield 70, 3) := by decide +kernel
theorem dX5_waitByDraw_25 : decode cX5_waitByDraw 25 = .ok (.aload_n 1, 1) := by decide +kernel
theorem dX5_waitByDraw_26 : decode cX5_waitByDraw 26 = .ok (.iload_n 2, 1) := by decide +kernel
theorem dX5_waitByDraw_27 : decode cX5_waitByDraw 27 = .ok (.iconst 1, 1) := by decide +kernel
theorem dX5_waitByDraw_28 : decode cX5_waitByDraw 28 = .ok (.if_icmp .ge 7, 3) := by decide +kernel
theorem dX5_waitByDraw_31 : decode cX5_waitByDraw 31 = .ok (.iconst 1, 1) := by decide +kernel
theorem dX5_waitByDraw_32 : decode cX5_waitByDraw 32 = .ok (.goto 14, 3) := by decide +kernel
theorem dX5_waitByDraw_35 : decode cX5_waitByDraw 35 = .ok (.iconst 1, 1) := by decide +kernel
theorem dX5_waitByDraw_36 : decode cX5_waitByDraw 36 = .ok (.aload_n 0, 1) := by decide +kernel
theorem dX5_waitByDraw_37 : decode cX5_waitByDraw 37 = .ok (.getfield 29, 3) := by decide +kernel
theorem dX5_waitByDraw_40 : decode cX5_waitByDraw 40 = .ok (.bipush 16, 2) := by decide +kernel
theorem dX5_waitByDraw_42 : decode cX5_waitByDraw 42 = .ok (.iushr, 1) := by decide +kernel
theorem dX5_waitByDraw_43 : decode cX5_waitByDraw 43 = .ok (.iload_n 2, 1) := by decide +kernel
theorem dX5_waitByDraw_44 : decode cX5_waitByDraw 44 = .ok (.irem, 1) := by decide +kernel
theorem dX5_waitByDraw_45 : decode cX5_waitByDraw 45 = .ok (.iadd, 1) := by decide +kernel
theorem dX5_waitByDraw_46 : decode cX5_waitByDraw 46 = .ok (.putfield 110, 3) := by decide +kernel
theorem dX5_waitByDraw_49 : decode cX5_waitByDraw 49 = .ok (.return_, 1) := by decide +kernel
theorem dX5_waitOn_0 : decode cX5_waitOn 0 = .ok (.aload_n 1, 1) := by decide +kernel
theorem dX5_waitOn_1 : decode cX5_waitOn 1 = .ok (.dup, 1) := by decide +kernel
theorem dX5_waitOn_2 : decode cX5_waitOn 2 = .ok (.getfield 110, 3) := by decide +kernel
theorem dX5_waitOn_5 : decode cX5_waitOn 5 = .ok (.iconst 1, 1) := by decide +kernel
theorem dX5_waitOn_6 : decode cX5_waitOn 6 = .ok (.isub, 1) := by decide +kernel
theorem dX5_waitOn_7 : decode cX5_waitOn 7 = .ok (.putfield 110, 3) := by decide +kernel
theorem dX5_waitOn_10 : decode cX5_waitOn 10 = .ok (.aload_n 1, 1) := by decide +kernel
theorem dX5_waitOn_11 : decode cX5_waitOn 11 = .ok (.getfield 110, 3) := by decide +kernel
theorem dX5_waitOn_14 : decode cX5_waitOn 14 = .ok (.ifCond .ne 7, 3) := by decide +kernel
theorem dX5_waitOn_17 : decode cX5_waitOn 17 = .ok (.aload_n 1, 1) := by decide +kernel
theorem dX5_waitOn_18 : decode cX5_waitOn 18 = .ok (.invokevirtual 126, 3) := by decide +kernel
theorem dX5_waitOn_21 : decode cX5_waitOn 21 = .ok (.return_, 1) := by decide +kernel
theorem dX5_changeStates_0 : decode cX5_changeStates 0 = .ok (.iconst 0, 1) := by decide +kernel
theorem dX5_changeStates_1 : decode cX5_changeStates 1 = .ok (.istore_n 1, 1) := by decide +kernel
theorem dX5_changeStates_2 : decode cX5_changeStates 2 = .ok (.iload_n 1, 1) := by decide +kernel
theorem dX5_changeStates_3 : decode cX5_changeStates 3 = .ok (.aload_n 0, 1) := by decide +kernel
theorem dX5_changeStates_4 : decode cX5_changeStates 4 = .ok (.getfield 25, 3) := by decide +kernel
theorem dX5_changeStates_7 : decode cX5_changeStates 7 = .ok (.if_icmp .ge 111, 3) := by decide +kernel
theorem dX5_changeStates_10 : decode cX5_changeStates 10 = .ok (.aload_n 0, 1) := by decide +kernel
theorem dX5_changeStates_11 : decode cX5_changeStates 11 = .ok (.getfield 17, 3) := by decide +kernel
theorem dX5_changeStates_14 : decode cX5_changeStates 14 = .ok (.iload_n 1, 1) := by decide +kernel
theorem dX5_changeStates_15 : decode cX5_changeStates 15 = .ok (.aaload, 1) := by decide +kernel
theorem dX5_changeStates_16 : decode cX5_changeStates 16 = .ok (.astore_n 2, 1) := by decide +kernel
theorem dX5_changeStates_17 : decode cX5_changeStates 17 = .ok (.aload_n 2, 1) := by decide +kernel
theorem dX5_changeStates_18 : decode cX5_changeStates 18 = .ok (.getfield 70, 3) := by decide +kernel
theorem dX5_changeStates_21 : decode cX5_changeStates 21 = .ok (.tableswitch 91 0 2 #[27, 46, 71], 27) := by decide +kernel
theorem dX5_changeStates_48 : decode cX5_changeStates 48 = .ok (.aload_n 2, 1) := by decide +kernel
theorem dX5_changeStates_49 : decode cX5_changeStates 49 = .ok (.aload_n 0, 1) := by decide +kernel
theorem dX5_changeStates_50 : decode cX5_changeStates 50 = .ok (.getfield 38, 3) := by decide +kernel
theorem dX5_changeStates_53 : decode cX5_changeStates 53 = .ok (.invokevirtual 103, 3) := by decide +kernel
theorem dX5_changeStates_56 : decode cX5_changeStates 56 = .ok (.ifCond .eq 56, 3) := by decide +kernel
theorem dX5_changeStates_59 : decode cX5_changeStates 59 = .ok (.aload_n 0, 1) := by decide +kernel
theorem dX5_changeStates_60 : decode cX5_changeStates 60 = .ok (.aload_n 2, 1) := by decide +kernel
theorem dX5_changeStates_61 : decode cX5_changeStates 61 = .ok (.invokevirtual 107, 3) := by decide +kernel
theorem dX5_changeStates_64 : decode cX5_changeStates 64 = .ok (.goto 48, 3) := by decide +kernel
theorem dX5_changeStates_67 : decode cX5_changeStates 67 = .ok (.aload_n 2, 1) := by decide +kernel
theorem dX5_changeStates_68 : decode cX5_changeStates 68 = .ok (.dup, 1) := by decide +kernel
theorem dX5_changeStates_69 : decode cX5_changeStates 69 = .ok (.getfield 110, 3) := by decide +kernel
theorem dX5_changeStates_72 : decode cX5_changeStates 72 = .ok (.iconst 1, 1) := by decide +kernel
theorem dX5_changeStates_73 : decode cX5_changeStates 73 = .ok (.isub, 1) := by decide +kernel
theorem dX5_changeStates_74 : decode cX5_changeStates 74 = .ok (.putfield 110, 3) := by decide +kernel
theorem dX5_changeStates_77 : decode cX5_changeStates 77 = .ok (.aload_n 2, 1) := by decide +kernel
theorem dX5_changeStates_78 : decode cX5_changeStates 78 = .ok (.getfield 110, 3) := by decide +kernel
theorem dX5_changeStates_81 : decode cX5_changeStates 81 = .ok (.ifCond .ne 31, 3) := by decide +kernel
theorem dX5_changeStates_84 : decode cX5_changeStates 84 = .ok (.aload_n 0, 1) := by decide +kernel
theorem dX5_changeStates_85 : decode cX5_changeStates 85 = .ok (.aload_n 2, 1) := by decide +kernel
theorem dX5_changeStates_86 : decode cX5_changeStates 86 = .ok (.invokevirtual 113, 3) := by decide +kernel
theorem dX5_changeStates_89 : decode cX5_changeStates 89 = .ok (.goto 23, 3) := by decide +kernel
theorem dX5_changeStates_92 : decode cX5_changeStates 92 = .ok (.aload_n 2, 1) := by decide +kernel
theorem dX5_changeStates_93 : decode cX5_changeStates 93 = .ok (.getfield 61, 3) := by decide +kernel
theorem dX5_changeStates_96 : decode cX5_changeStates 96 = .ok (.aload_n 0, 1) := by decide +kernel
theorem dX5_changeStates_97 : decode cX5_changeStates 97 = .ok (.getfield 50, 3) := by decide +kernel
theorem dX5_changeStates_100 : decode cX5_changeStates 100 = .ok (.iand, 1) := by decide +kernel
theorem dX5_changeStates_101 : decode cX5_changeStates 101 = .ok (.ifCond .ne 11, 3) := by decide +kernel
theorem dX5_changeStates_104 : decode cX5_changeStates 104 = .ok (.aload_n 0, 1) := by decide +kernel
theorem dX5_changeStates_105 : decode cX5_changeStates 105 = .ok (.aload_n 2, 1) := by decide +kernel
theorem dX5_changeStates_106 : decode cX5_changeStates 106 = .ok (.invokevirtual 116, 3) := by decide +kernel
theorem dX5_changeStates_109 : decode cX5_changeStates 109 = .ok (.goto 3, 3) := by decide +kernel
theorem dX5_changeStates_112 : decode cX5_changeStates 112 = .ok (.iinc 1 1, 3) := by decide +kernel
theorem dX5_changeStates_115 : decode cX5_changeStates 115 = .ok (.goto (-113), 3) := by decide +kernel
theorem dX5_changeStates_118 : decode cX5_changeStates 118 = .ok (.return_, 1) := by decide +kernel
theorem dX5_payForStates_0 : decode cX5_payForStates 0 = .ok (.iconst 0, 1) := by decide +kernel
theorem dX5_payForStates_1 : decode cX5_payForStates 1 = .ok (.istore_n 1, 1) := by decide +kernel
theorem dX5_payForStates_2 : decode cX5_payForStates 2 = .ok (.iload_n 1, 1) := by decide +kernel
theorem dX5_payForStates_3 : decode cX5_payForStates 3 = .ok (.aload_n 0, 1) := by decide +kernel
theorem dX5_payForStates_4 : decode cX5_payForStates 4 = .ok (.getfield 25, 3) := by decide +kernel
theorem dX5_payForStates_7 : decode cX5_payForStates 7 = .ok (.if_icmp .ge 50, 3) := by decide +kernel
theorem dX5_payForStates_10 : decode cX5_payForStates 10 = .ok (.aload_n 0, 1) := by decide +kernel
theorem dX5_payForStates_11 : decode cX5_payForStates 11 = .ok (.getfield 17, 3) := by decide +kernel
theorem dX5_payForStates_14 : decode cX5_payForStates 14 = .ok (.iload_n 1, 1) := by decide +kernel
theorem dX5_payForStates_15 : decode cX5_payForStates 15 = .ok (.aaload, 1) := by decide +kernel
theorem dX5_payForStates_16 : decode cX5_payForStates 16 = .ok (.astore_n 2, 1) := by decide +kernel
theorem dX5_payForStates_17 : decode cX5_payForStates 17 = .ok (.aload_n 2, 1) := by decide +kernel
theorem dX5_payForStates_18 : decode cX5_payForStates 18 = .ok (.getfield 70, 3) := by decide +kernel
theorem dX5_payForStates_21 : decode cX5_payForStates 21 = .ok (.iconst 4, 1) := by decide +kernel
theorem dX5_payForStates_22 : decode cX5_payForStates 22 = .ok (.if_icmp .eq 29, 3) := by decide +kernel
theorem dX5_payForStates_25 : decode cX5_payForStates 25 = .ok (.aload_n 2, 1) := by decide +kernel
theorem dX5_payForStates_26 : decode cX5_payForStates 26 = .ok (.getfield 134, 3) := by decide +kernel
theorem dX5_payForStates_29 : decode cX5_payForStates 29 = .ok (.aload_n 2, 1) := by decide +kernel
theorem dX5_payForStates_30 : decode cX5_payForStates 30 = .ok (.getfield 70, 3) := by decide +kernel
theorem dX5_payForStates_33 : decode cX5_payForStates 33 = .ok (.dup2, 1) := by decide +kernel
theorem dX5_payForStates_34 : decode cX5_payForStates 34 = .ok (.iaload, 1) := by decide +kernel
theorem dX5_payForStates_35 : decode cX5_payForStates 35 = .ok (.iconst 1, 1) := by decide +kernel
theorem dX5_payForStates_36 : decode cX5_payForStates 36 = .ok (.iadd, 1) := by decide +kernel
theorem dX5_payForStates_37 : decode cX5_payForStates 37 = .ok (.iastore, 1) := by decide +kernel
theorem dX5_payForStates_38 : decode cX5_payForStates 38 = .ok (.aload_n 2, 1) := by decide +kernel
theorem dX5_payForStates_39 : decode cX5_payForStates 39 = .ok (.aload_n 0, 1) := by decide +kernel
theorem dX5_payForStates_40 : decode cX5_payForStates 40 = .ok (.getfield 9, 3) := by decide +kernel
theorem dX5_payForStates_43 : decode cX5_payForStates 43 = .ok (.aload_n 2, 1) := by decide +kernel
theorem dX5_payForStates_44 : decode cX5_payForStates 44 = .ok (.getfield 70, 3) := by decide +kernel
theorem dX5_payForStates_47 : decode cX5_payForStates 47 = .ok (.iaload, 1) := by decide +kernel
theorem dX5_payForStates_48 : decode cX5_payForStates 48 = .ok (.invokevirtual 137, 3) := by decide +kernel
theorem dX5_payForStates_51 : decode cX5_payForStates 51 = .ok (.iinc 1 1, 3) := by decide +kernel
theorem dX5_payForStates_54 : decode cX5_payForStates 54 = .ok (.goto (-52), 3) := by decide +kernel
theorem dX5_payForStates_57 : decode cX5_payForStates 57 = .ok (.return_, 1) := by decide +kernel
theorem dX5_reasonAgainst_0 : decode cX5_reasonAgainst 0 = .ok (.aload_n 1, 1) := by decide +kernel
theorem dX5_reasonAgainst_1 : decode cX5_reasonAgainst 1 = .ok (.getfield 61, 3) := by decide +kernel
theorem dX5_reasonAgainst_4 : decode cX5_reasonAgainst 4 = .ok (.iload_n 2, 1) := by decide +kernel
theorem dX5_reasonAgainst_5 : decode cX5_reasonAgainst 5 = .ok (.invokestatic 83, 3) := by decide +kernel
theorem dX5_reasonAgainst_8 : decode cX5_reasonAgainst 8 = .ok (.ifCond .ne 5, 3) := by decide +kernel
theorem dX5_reasonAgainst_11 : decode cX5_reasonAgainst 11 = .ok (.iconst 1, 1) := by decide +kernel
theorem dX5_reasonAgainst_12 : decode cX5_reasonAgainst 12 = .ok (.ireturn, 1) := by decide +kernel
theorem dX5_reasonAgainst_13 : decode cX5_reasonAgainst 13 = .ok (.aload_n 1, 1) := by decide +kernel
theorem dX5_reasonAgainst_14 : decode cX5_reasonAgainst 14 = .ok (.getfield 70, 3) := by decide +kernel
theorem dX5_reasonAgainst_17 : decode cX5_reasonAgainst 17 = .ok (.iconst 3, 1) := by decide +kernel
theorem dX5_reasonAgainst_18 : decode cX5_reasonAgainst 18 = .ok (.if_icmp .ne 5, 3) := by decide +kernel
theorem dX5_reasonAgainst_21 : decode cX5_reasonAgainst 21 = .ok (.iconst 3, 1) := by decide +kernel
theorem dX5_reasonAgainst_22 : decode cX5_reasonAgainst 22 = .ok (.ireturn, 1) := by decide +kernel
theorem dX5_reasonAgainst_23 : decode cX5_reasonAgainst 23 = .ok (.aload_n 1, 1) := by decide +kernel
theorem dX5_reasonAgainst_24 : decode cX5_reasonAgainst 24 = .ok (.invokevirtual 141, 3) := by decide +kernel
theorem dX5_reasonAgainst_27 : decode cX5_reasonAgainst 27 = .ok (.ifCond .ne 5, 3) := by decide +kernel
theorem dX5_reasonAgainst_30 : decode cX5_reasonAgainst 30 = .ok (.iconst 2, 1) := by decide +kernel
theorem dX5_reasonAgainst_31 : decode cX5_reasonAgainst 31 = .ok (.ireturn, 1) := by decide +kernel
theorem dX5_reasonAgainst_32 : decode cX5_reasonAgainst 32 = .ok (.iload_n 3, 1) := by decide +kernel
theorem dX5_reasonAgainst_33 : decode cX5_reasonAgainst 33 = .ok (.ifCond .eq 7, 3) := by decide +kernel
theorem dX5_reasonAgainst_36 : decode cX5_reasonAgainst 36 = .ok (.iconst 4, 1) := by decide +kernel
theorem dX5_reasonAgainst_37 : decode cX5_reasonAgainst 37 = .ok (.goto 4, 3) := by decide +kernel
theorem dX5_reasonAgainst_40 : decode cX5_reasonAgainst 40 = .ok (.iconst 0, 1) := by decide +kernel
theorem dX5_reasonAgainst_41 : decode cX5_reasonAgainst 41 = .ok (.ireturn, 1) := by decide +kernel
theorem dX5_listenToSenders_0 : decode cX5_listenToSenders 0 = .ok (.aload_n 0, 1) := by decide +kernel
theorem dX5_listenToSenders_1 : decode cX5_listenToSenders 1 = .ok (.aload_n 0, 1) := by decide +kernel
theorem dX5_listenToSenders_2 : decode cX5_listenToSenders 2 = .ok (.iconst 3, 1) := by decide +kernel
theorem dX5_listenToSenders_3 : decode cX5_listenToSenders 3 = .ok (.invokevirtual 73, 3) := by decide +kernel
theorem dX5_listenToSenders_6 : decode cX5_listenToSenders 6 = .ok (.putfield 50, 3) := by decide +kernel
theorem dX5_listenToSenders_9 : decode cX5_listenToSenders 9 = .ok (.aload_n 0, 1) := by decide +kernel
theorem dX5_listenToSenders_10 : decode cX5_listenToSenders 10 = .ok (.getfield 50, 3) := by decide +kernel
theorem dX5_listenToSenders_13 : decode cX5_listenToSenders 13 = .ok (.ifCond .ne 4, 3) := by decide +kernel
theorem dX5_listenToSenders_16 : decode cX5_listenToSenders 16 = .ok (.return_, 1) := by decide +kernel
theorem dX5_listenToSenders_17 : decode cX5_listenToSenders 17 = .ok (.iconst 0, 1) := by decide +kernel
theorem dX5_listenToSenders_18 : decode cX5_listenToSenders 18 = .ok (.istore_n 1, 1) := by decide +kernel
theorem dX5_listenToSenders_19 : decode cX5_listenToSenders 19 = .ok (.iload_n 1, 1) := by decide +kernel
theorem dX5_listenToSenders_20 : decode cX5_listenToSenders 20 = .ok (.aload_n 0, 1) := by decide +kernel
theorem dX5_listenToSenders_21 : decode cX5_listenToSenders 21 = .ok (.getfield 25, 3) := by decide +kernel
theorem dX5_listenToSenders_24 : decode cX5_listenToSenders 24 = .ok (.if_icmp .ge 124, 3) := by decide +kernel
theorem dX5_listenToSenders_27 : decode cX5_listenToSenders 27 = .ok (.aload_n 0, 1) := by decide +kernel
theorem dX5_listenToSenders_28 : decode cX5_listenToSenders 28 = .ok (.getfield 17, 3) := by decide +kernel
theorem dX5_listenToSenders_31 : decode cX5_listenToSenders 31 = .ok (.iload_n 1, 1) := by decide +kernel
theorem dX5_listenToSenders_32 : decode cX5_listenToSenders 32 = .ok (.aaload, 1) := by decide +kernel
theorem dX5_listenToSenders_33 : decode cX5_listenToSenders 33 = .ok (.astore_n 2, 1) := by decide +kernel
theorem dX5_listenToSenders_34 : decode cX5_listenToSenders 34 = .ok (.aload_n 2, 1) := by decide +kernel
theorem dX5_listenToSenders_35 : decode cX5_listenToSenders 35 = .ok (.getfield 61, 3) := by decide +kernel
theorem dX5_listenToSenders_38 : decode cX5_listenToSenders 38 = .ok (.aload_n 0, 1) := by decide +kernel
theorem dX5_listenToSenders_39 : decode cX5_listenToSenders 39 = .ok (.getfield 50, 3) := by decide +kernel
theorem dX5_listenToSenders_42 : decode cX5_listenToSenders 42 = .ok (.iand, 1) := by decide +kernel
theorem dX5_listenToSenders_43 : decode cX5_listenToSenders 43 = .ok (.invokestatic 64, 3) := by decide +kernel
theorem dX5_listenToSenders_46 : decode cX5_listenToSenders 46 = .ok (.iconst 1, 1) := by decide +kernel
theorem dX5_listenToSenders_47 : decode cX5_listenToSenders 47 = .ok (.if_icmp .le 7, 3) := by decide +kernel
theorem dX5_listenToSenders_50 : decode cX5_listenToSenders 50 = .ok (.iconst 1, 1) := by decide +kernel
theorem dX5_listenToSenders_51 : decode cX5_listenToSenders 51 = .ok (.goto 4, 3) := by decide +kernel
theorem dX5_listenToSenders_54 : decode cX5_listenToSenders 54 = .ok (.iconst 0, 1) := by decide +kernel
theorem dX5_listenToSenders_55 : decode cX5_listenToSenders 55 = .ok (.istore_n 3, 1) := by decide +kernel
theorem dX5_listenToSenders_56 : decode cX5_listenToSenders 56 = .ok (.iload_n 3, 1) := by decide +kernel
theorem dX5_listenToSenders_57 : decode cX5_listenToSenders 57 = .ok (.ifCond .eq 20, 3) := by decide +kernel
theorem dX5_listenToSenders_60 : decode cX5_listenToSenders 60 = .ok (.aload_n 2, 1) := by decide +kernel
theorem dX5_listenToSenders_61 : decode cX5_listenToSenders 61 = .ok (.invokevirtual 141, 3) := by decide +kernel
theorem dX5_listenToSenders_64 : decode cX5_listenToSenders 64 = .ok (.ifCond .eq 13, 3) := by decide +kernel
theorem dX5_listenToSenders_67 : decode cX5_listenToSenders 67 = .ok (.aload_n 0, 1) := by decide +kernel
theorem dX5_listenToSenders_68 : decode cX5_listenToSenders 68 = .ok (.dup, 1) := by decide +kernel
theorem dX5_listenToSenders_69 : decode cX5_listenToSenders 69 = .ok (.getfield 47, 3) := by decide +kernel
theorem dX5_listenToSenders_72 : decode cX5_listenToSenders 72 = .ok (.iconst 1, 1) := by decide +kernel
theorem dX5_listenToSenders_73 : decode cX5_listenToSenders 73 = .ok (.iadd, 1) := by decide +kernel
theorem dX5_listenToSenders_74 : decode cX5_listenToSenders 74 = .ok (.putfield 47, 3) := by decide +kernel
theorem dX5_listenToSenders_77 : decode cX5_listenToSenders 77 = .ok (.iconst 0, 1) := by decide +kernel
theorem dX5_listenToSenders_78 : decode cX5_listenToSenders 78 = .ok (.istore 4, 2) := by decide +kernel
theorem dX5_listenToSenders_80 : decode cX5_listenToSenders 80 = .ok (.iload 4, 2) := by decide +kernel
theorem dX5_listenToSenders_82 : decode cX5_listenToSenders 82 = .ok (.aload_n 0, 1) := by decide +kernel
theorem dX5_listenToSenders_83 : decode cX5_listenToSenders 83 = .ok (.getfield 25, 3) := by decide +kernel
theorem dX5_listenToSenders_86 : decode cX5_listenToSenders 86 = .ok (.if_icmp .ge 56, 3) := by decide +kernel
theorem dX5_listenToSenders_89 : decode cX5_listenToSenders 89 = .ok (.aload_n 0, 1) := by decide +kernel
theorem dX5_listenToSenders_90 : decode cX5_listenToSenders 90 = .ok (.getfield 50, 3) := by decide +kernel
theorem dX5_listenToSenders_93 : decode cX5_listenToSenders 93 = .ok (.iload 4, 2) := by decide +kernel
theorem dX5_listenToSenders_95 : decode cX5_listenToSenders 95 = .ok (.invokestatic 83, 3) := by decide +kernel
theorem dX5_listenToSenders_98 : decode cX5_listenToSenders 98 = .ok (.ifCond .eq 38, 3) := by decide +kernel
theorem dX5_listenToSenders_101 : decode cX5_listenToSenders 101 = .ok (.aload_n 0, 1) := by decide +kernel
theorem dX5_listenToSenders_102 : decode cX5_listenToSenders 102 = .ok (.getfield 17, 3) := by decide +kernel
theorem dX5_listenToSenders_105 : decode cX5_listenToSenders 105 = .ok (.iload 4, 2) := by decide +kernel
theorem dX5_listenToSenders_107 : decode cX5_listenToSenders 107 = .ok (.aaload, 1) := by decide +kernel
theorem dX5_listenToSenders_108 : decode cX5_listenToSenders 108 = .ok (.getfield 145, 3) := by decide +kernel
theorem dX5_listenToSenders_111 : decode cX5_listenToSenders 111 = .ok (.iload_n 1, 1) := by decide +kernel
theorem dX5_listenToSenders_112 : decode cX5_listenToSenders 112 = .ok (.iaload, 1) := by decide +kernel
theorem dX5_listenToSenders_113 : decode cX5_listenToSenders 113 = .ok (.ifCond .ne 23, 3) := by decide +kernel
theorem dX5_listenToSenders_116 : decode cX5_listenToSenders 116 = .ok (.aload_n 0, 1) := by decide +kernel
theorem dX5_listenToSenders_117 : decode cX5_listenToSenders 117 = .ok (.getfield 17, 3) := by decide +kernel
theorem dX5_listenToSenders_120 : decode cX5_listenToSenders 120 = .ok (.iload 4, 2) := by decide +kernel
theorem dX5_listenToSenders_122 : decode cX5_listenToSenders 122 = .ok (.aaload, 1) := by decide +kernel
theorem dX5_listenToSenders_123 : decode cX5_listenToSenders 123 = .ok (.getfield 145, 3) := by decide +kernel
theorem dX5_listenToSenders_126 : decode cX5_listenToSenders 126 = .ok (.iload_n 1, 1) := by decide +kernel
theorem dX5_listenToSenders_127 : decode cX5_listenToSenders 127 = .ok (.aload_n 0, 1) := by decide +kernel
theorem dX5_listenToSenders_128 : decode cX5_listenToSenders 128 = .ok (.aload_n 2, 1) := by decide +kernel
theorem dX5_listenToSenders_129 : decode cX5_listenToSenders 129 = .ok (.iload 4, 2) := by decide +kernel
theorem dX5_listenToSenders_131 : decode cX5_listenToSenders 131 = .ok (.iload_n 3, 1) := by decide +kernel
theorem dX5_listenToSenders_132 : decode cX5_listenToSenders 132 = .ok (.invokevirtual 148, 3) := by decide +kernel
theorem dX5_listenToSenders_135 : decode cX5_listenToSenders 135 = .ok (.iastore, 1) := by decide +kernel
theorem dX5_listenToSenders_136 : decode cX5_listenToSenders 136 = .ok (.iinc 4 1, 3) := by decide +kernel
theorem dX5_listenToSenders_139 : decode cX5_listenToSenders 139 = .ok (.goto (-59), 3) := by decide +kernel
theorem dX5_listenToSenders_142 : decode cX5_listenToSenders 142 = .ok (.iinc 1 1, 3) := by decide +kernel
theorem dX5_listenToSenders_145 : decode cX5_listenToSenders 145 = .ok (.goto (-126), 3) := by decide +kernel
theorem dX5_listenToSenders_148 : decode cX5_listenToSenders 148 = .ok (.return_, 1) := by decide +kernel
theorem dX5_tellEars_0 : decode cX5_tellEars 0 = .ok (.iconst 0, 1) := by decide +kernel
theorem dX5_tellEars_1 : decode cX5_tellEars 1 = .ok (.istore_n 3, 1) := by decide +kernel
theorem dX5_tellEars_2 : decode cX5_tellEars 2 = .ok (.iconst 0, 1) := by decide +kernel
theorem dX5_tellEars_3 : decode cX5_tellEars 3 = .ok (.istore 4, 2) := by decide +kernel
theorem dX5_tellEars_5 : decode cX5_tellEars 5 = .ok (.iload 4, 2) := by decide +kernel
theorem dX5_tellEars_7 : decode cX5_tellEars 7 = .ok (.aload_n 0, 1) := by decide +kernel
theorem dX5_tellEars_8 : decode cX5_tellEars 8 = .ok (.getfield 25, 3) := by decide +kernel
theorem dX5_tellEars_11 : decode cX5_tellEars 11 = .ok (.if_icmp .ge 51, 3) := by decide +kernel
theorem dX5_tellEars_14 : decode cX5_tellEars 14 = .ok (.aload_n 1, 1) := by decide +kernel
theorem dX5_tellEars_15 : decode cX5_tellEars 15 = .ok (.getfield 167, 3) := by decide +kernel
theorem dX5_tellEars_18 : decode cX5_tellEars 18 = .ok (.iload 4, 2) := by decide +kernel
theorem dX5_tellEars_20 : decode cX5_tellEars 20 = .ok (.aload_n 1, 1) := by decide +kernel
theorem dX5_tellEars_21 : decode cX5_tellEars 21 = .ok (.getfield 145, 3) := by decide +kernel
theorem dX5_tellEars_24 : decode cX5_tellEars 24 = .ok (.iload 4, 2) := by decide +kernel
theorem dX5_tellEars_26 : decode cX5_tellEars 26 = .ok (.iaload, 1) := by decide +kernel
theorem dX5_tellEars_27 : decode cX5_tellEars 27 = .ok (.iastore, 1) := by decide +kernel
theorem dX5_tellEars_28 : decode cX5_tellEars 28 = .ok (.aload_n 1, 1) := by decide +kernel
theorem dX5_tellEars_29 : decode cX5_tellEars 29 = .ok (.getfield 145, 3) := by decide +kernel
theorem dX5_tellEars_32 : decode cX5_tellEars 32 = .ok (.iload 4, 2) := by decide +kernel
theorem dX5_tellEars_34 : decode cX5_tellEars 34 = .ok (.iaload, 1) := by decide +kernel
theorem dX5_tellEars_35 : decode cX5_tellEars 35 = .ok (.ifCond .ne 21, 3) := by decide +kernel
theorem dX5_tellEars_38 : decode cX5_tellEars 38 = .ok (.aload_n 0, 1) := by decide +kernel
theorem dX5_tellEars_39 : decode cX5_tellEars 39 = .ok (.getfield 17, 3) := by decide +kernel
theorem dX5_tellEars_42 : decode cX5_tellEars 42 = .ok (.iload 4, 2) := by decide +kernel
theorem dX5_tellEars_44 : decode cX5_tellEars 44 = .ok (.aaload, 1) := by decide +kernel
theorem dX5_tellEars_45 : decode cX5_tellEars 45 = .ok (.getfield 76, 3) := by decide +kernel
theorem dX5_tellEars_48 : decode cX5_tellEars 48 = .ok (.iload_n 2, 1) := by decide +kernel
theorem dX5_tellEars_49 : decode cX5_tellEars 49 = .ok (.aload_n 0, 1) := by decide +kernel
theorem dX5_tellEars_50 : decode cX5_tellEars 50 = .ok (.getfield 38, 3) := by decide +kernel
theorem dX5_tellEars_53 : decode cX5_tellEars 53 = .ok (.iastore, 1) := by decide +kernel
theorem dX5_tellEars_54 : decode cX5_tellEars 54 = .ok (.iconst 1, 1) := by decide +kernel
theorem dX5_tellEars_55 : decode cX5_tellEars 55 = .ok (.istore_n 3, 1) := by decide +kernel
theorem dX5_tellEars_56 : decode cX5_tellEars 56 = .ok (.iinc 4 1, 3) := by decide +kernel
theorem dX5_tellEars_59 : decode cX5_tellEars 59 = .ok (.goto (-54), 3) := by decide +kernel
theorem dX5_tellEars_62 : decode cX5_tellEars 62 = .ok (.iload_n 3, 1) := by decide +kernel
theorem dX5_tellEars_63 : decode cX5_tellEars 63 = .ok (.ireturn, 1) := by decide +kernel
theorem dX5_endSending_0 : decode cX5_endSending 0 = .ok (.aload_n 0, 1) := by decide +kernel
theorem dX5_endSending_1 : decode cX5_endSending 1 = .ok (.aload_n 1, 1) := by decide +kernel
theorem dX5_endSending_2 : decode cX5_endSending 2 = .ok (.iload_n 2, 1) := by decide +kernel
theorem dX5_endSending_3 : decode cX5_endSending 3 = .ok (.invokevirtual 156, 3) := by decide +kernel
theorem dX5_endSending_6 : decode cX5_endSending 6 = .ok (.ifCond .eq 29, 3) := by decide +kernel
theorem dX5_endSending_9 : decode cX5_endSending 9 = .ok (.aload_n 1, 1) := by decide +kernel
theorem dX5_endSending_10 : decode cX5_endSending 10 = .ok (.dup, 1) := by decide +kernel
theorem dX5_endSending_11 : decode cX5_endSending 11 = .ok (.getfield 159, 3) := by decide +kernel
theorem dX5_endSending_14 : decode cX5_endSending 14 = .ok (.iconst 1, 1) := by decide +kernel
theorem dX5_endSending_15 : decode cX5_endSending 15 = .ok (.iadd, 1) := by decide +kernel
theorem dX5_endSending_16 : decode cX5_endSending 16 = .ok (.putfield 159, 3) := by decide +kernel
theorem dX5_endSending_19 : decode cX5_endSending 19 = .ok (.aload_n 0, 1) := by decide +kernel
theorem dX5_endSending_20 : decode cX5_endSending 20 = .ok (.dup, 1) := by decide +kernel
theorem dX5_endSending_21 : decode cX5_endSending 21 = .ok (.getfield 41, 3) := by decide +kernel
theorem dX5_endSending_24 : decode cX5_endSending 24 = .ok (.iconst 1, 1) := by decide +kernel
theorem dX5_endSending_25 : decode cX5_endSending 25 = .ok (.iadd, 1) := by decide +kernel
theorem dX5_endSending_26 : decode cX5_endSending 26 = .ok (.putfield 41, 3) := by decide +kernel
theorem dX5_endSending_29 : decode cX5_endSending 29 = .ok (.aload_n 1, 1) := by decide +kernel
theorem dX5_endSending_30 : decode cX5_endSending 30 = .ok (.invokevirtual 160, 3) := by decide +kernel
theorem dX5_endSending_33 : decode cX5_endSending 33 = .ok (.iconst 1, 1) := by decide +kernel
theorem dX5_endSending_34 : decode cX5_endSending 34 = .ok (.ireturn, 1) := by decide +kernel
theorem dX5_endSending_35 : decode cX5_endSending 35 = .ok (.aload_n 1, 1) := by decide +kernel
theorem dX5_endSending_36 : decode cX5_endSending 36 = .ok (.dup, 1) := by decide +kernel
theorem dX5_endSending_37 : decode cX5_endSending 37 = .ok (.getfield 163, 3) := by decide +kernel
theorem dX5_endSending_40 : decode cX5_endSending 40 = .ok (.iconst 1, 1) := by decide +kernel
theorem dX5_endSending_41 : decode cX5_endSending 41 = .ok (.iadd, 1) := by decide +kernel
theorem dX5_endSending_42 : decode cX5_endSending 42 = .ok (.putfield 163, 3) := by decide +kernel
theorem dX5_endSending_45 : decode cX5_endSending 45 = .ok (.aload_n 1, 1) := by decide +kernel
theorem dX5_endSending_46 : decode cX5_endSending 46 = .ok (.getfield 163, 3) := by decide +kernel
theorem dX5_endSending_49 : decode cX5_endSending 49 = .ok (.aload_n 0, 1) := by decide +kernel
theorem dX5_endSending_50 : decode cX5_endSending 50 = .ok (.getfield 32, 3) := by decide +kernel
theorem dX5_endSending_53 : decode cX5_endSending 53 = .ok (.if_icmp .lt 29, 3) := by decide +kernel
theorem dX5_endSending_56 : decode cX5_endSending 56 = .ok (.aload_n 1, 1) := by decide +kernel
theorem dX5_endSending_57 : decode cX5_endSending 57 = .ok (.dup, 1) := by decide +kernel
theorem dX5_endSending_58 : decode cX5_endSending 58 = .ok (.getfield 166, 3) := by decide +kernel
theorem dX5_endSending_61 : decode cX5_endSending 61 = .ok (.iconst 1, 1) := by decide +kernel
theorem dX5_endSending_62 : decode cX5_endSending 62 = .ok (.iadd, 1) := by decide +kernel
theorem dX5_endSending_63 : decode cX5_endSending 63 = .ok (.putfield 166, 3) := by decide +kernel
theorem dX5_endSending_66 : decode cX5_endSending 66 = .ok (.aload_n 0, 1) := by decide +kernel
theorem dX5_endSending_67 : decode cX5_endSending 67 = .ok (.dup, 1) := by decide +kernel
theorem dX5_endSending_68 : decode cX5_endSending 68 = .ok (.getfield 44, 3) := by decide +kernel
theorem dX5_endSending_71 : decode cX5_endSending 71 = .ok (.iconst 1, 1) := by decide +kernel
theorem dX5_endSending_72 : decode cX5_endSending 72 = .ok (.iadd, 1) := by decide +kernel
theorem dX5_endSending_73 : decode cX5_endSending 73 = .ok (.putfield 44, 3) := by decide +kernel
theorem dX5_endSending_76 : decode cX5_endSending 76 = .ok (.aload_n 1, 1) := by decide +kernel
theorem dX5_endSending_77 : decode cX5_endSending 77 = .ok (.invokevirtual 160, 3) := by decide +kernel
theorem dX5_endSending_80 : decode cX5_endSending 80 = .ok (.iconst 1, 1) := by decide +kernel
theorem dX5_endSending_81 : decode cX5_endSending 81 = .ok (.ireturn, 1) := by decide +kernel
theorem dX5_endSending_82 : decode cX5_endSending 82 = .ok (.iconst 0, 1) := by decide +kernel
theorem dX5_endSending_83 : decode cX5_endSending 83 = .ok (.ireturn, 1) := by decide +kernel
theorem dX5_endSendings_0 : decode cX5_endSendings 0 = .ok (.iconst 0, 1) := by decide +kernel
theorem dX5_endSendings_1 : decode cX5_endSendings 1 = .ok (.istore_n 1, 1) := by decide +kernel
theorem dX5_endSendings_2 : decode cX5_endSendings 2 = .ok (.iload_n 1, 1) := by decide +kernel
theorem dX5_endSendings_3 : decode cX5_endSendings 3 = .ok (.aload_n 0, 1) := by decide +kernel
theorem dX5_endSendings_4 : decode cX5_endSendings 4 = .ok (.getfield 25, 3) := by decide +kernel
theorem dX5_endSendings_7 : decode cX5_endSendings 7 = .ok (.if_icmp .ge 55, 3) := by decide +kernel
theorem dX5_endSendings_10 : decode cX5_endSendings 10 = .ok (.aload_n 0, 1) := by decide +kernel
theorem dX5_endSendings_11 : decode cX5_endSendings 11 = .ok (.getfield 17, 3) := by decide +kernel
theorem dX5_endSendings_14 : decode cX5_endSendings 14 = .ok (.iload_n 1, 1) := by decide +kernel
theorem dX5_endSendings_15 : decode cX5_endSendings 15 = .ok (.aaload, 1) := by decide +kernel
theorem dX5_endSendings_16 : decode cX5_endSendings 16 = .ok (.astore_n 2, 1) := by decide +kernel
theorem dX5_endSendings_17 : decode cX5_endSendings 17 = .ok (.aload_n 2, 1) := by decide +kernel
theorem dX5_endSendings_18 : decode cX5_endSendings 18 = .ok (.getfield 70, 3) := by decide +kernel
theorem dX5_endSendings_21 : decode cX5_endSendings 21 = .ok (.iconst 3, 1) := by decide +kernel
theorem dX5_endSendings_22 : decode cX5_endSendings 22 = .ok (.if_icmp .ne 34, 3) := by decide +kernel
theorem dX5_endSendings_25 : decode cX5_endSendings 25 = .ok (.aload_n 2, 1) := by decide +kernel
theorem dX5_endSendings_26 : decode cX5_endSendings 26 = .ok (.dup, 1) := by decide +kernel
theorem dX5_endSendings_27 : decode cX5_endSendings 27 = .ok (.getfield 110, 3) := by decide +kernel
theorem dX5_endSendings_30 : decode cX5_endSendings 30 = .ok (.iconst 1, 1) := by decide +kernel
theorem dX5_endSendings_31 : decode cX5_endSendings 31 = .ok (.isub, 1) := by decide +kernel
theorem dX5_endSendings_32 : decode cX5_endSendings 32 = .ok (.putfield 110, 3) := by decide +kernel
theorem dX5_endSendings_35 : decode cX5_endSendings 35 = .ok (.aload_n 2, 1) := by decide +kernel
theorem dX5_endSendings_36 : decode cX5_endSendings 36 = .ok (.getfield 110, 3) := by decide +kernel
theorem dX5_endSendings_39 : decode cX5_endSendings 39 = .ok (.ifCond .ne 17, 3) := by decide +kernel
theorem dX5_endSendings_42 : decode cX5_endSendings 42 = .ok (.aload_n 0, 1) := by decide +kernel
theorem dX5_endSendings_43 : decode cX5_endSendings 43 = .ok (.aload_n 2, 1) := by decide +kernel
theorem dX5_endSendings_44 : decode cX5_endSendings 44 = .ok (.iload_n 1, 1) := by decide +kernel
theorem dX5_endSendings_45 : decode cX5_endSendings 45 = .ok (.invokevirtual 152, 3) := by decide +kernel
theorem dX5_endSendings_48 : decode cX5_endSendings 48 = .ok (.ifCond .ne 8, 3) := by decide +kernel
theorem dX5_endSendings_51 : decode cX5_endSendings 51 = .ok (.aload_n 0, 1) := by decide +kernel
theorem dX5_endSendings_52 : decode cX5_endSendings 52 = .ok (.aload_n 2, 1) := by decide +kernel
theorem dX5_endSendings_53 : decode cX5_endSendings 53 = .ok (.invokevirtual 113, 3) := by decide +kernel
theorem dX5_endSendings_56 : decode cX5_endSendings 56 = .ok (.iinc 1 1, 3) := by decide +kernel
theorem dX5_endSendings_59 : decode cX5_endSendings 59 = .ok (.goto (-57), 3) := by decide +kernel
theorem dX5_endSendings_62 : decode cX5_endSendings 62 = .ok (.return_, 1) := by decide +kernel
theorem dX5_pass_0 : decode cX5_pass 0 = .ok (.iconst 0, 1) := by decide +kernel
theorem dX5_pass_1 : decode cX5_pass 1 = .ok (.istore_n 2, 1) := by decide +kernel
theorem dX5_pass_2 : decode cX5_pass 2 = .ok (.iload_n 2, 1) := by decide +kernel
theorem dX5_pass_3 : decode cX5_pass 3 = .ok (.iload_n 1, 1) := by decide +kernel
theorem dX5_pass_4 : decode cX5_pass 4 = .ok (.if_icmp .ge 35, 3) := by decide +kernel
theorem dX5_pass_7 : decode cX5_pass 7 = .ok (.aload_n 0, 1) := by decide +kernel
theorem dX5_pass_8 : decode cX5_pass 8 = .ok (.dup, 1) := by decide +kernel
theorem dX5_pass_9 : decode cX5_pass 9 = .ok (.getfield 38, 3) := by decide +kernel
theorem dX5_pass_12 : decode cX5_pass 12 = .ok (.iconst 1, 1) := by decide +kernel
theorem dX5_pass_13 : decode cX5_pass 13 = .ok (.iadd, 1) := by decide +kernel
theorem dX5_pass_14 : decode cX5_pass 14 = .ok (.putfield 38, 3) := by decide +kernel
theorem dX5_pass_17 : decode cX5_pass 17 = .ok (.aload_n 0, 1) := by decide +kernel
theorem dX5_pass_18 : decode cX5_pass 18 = .ok (.invokevirtual 91, 3) := by decide +kernel
theorem dX5_pass_21 : decode cX5_pass 21 = .ok (.aload_n 0, 1) := by decide +kernel
theorem dX5_pass_22 : decode cX5_pass 22 = .ok (.invokevirtual 94, 3) := by decide +kernel
theorem dX5_pass_25 : decode cX5_pass 25 = .ok (.aload_n 0, 1) := by decide +kernel
theorem dX5_pass_26 : decode cX5_pass 26 = .ok (.invokevirtual 97, 3) := by decide +kernel
theorem dX5_pass_29 : decode cX5_pass 29 = .ok (.aload_n 0, 1) := by decide +kernel
theorem dX5_pass_30 : decode cX5_pass 30 = .ok (.invokevirtual 100, 3) := by decide +kernel
theorem dX5_pass_33 : decode cX5_pass 33 = .ok (.iinc 2 1, 3) := by decide +kernel
theorem dX5_pass_36 : decode cX5_pass 36 = .ok (.goto (-34), 3) := by decide +kernel
theorem dX5_pass_39 : decode cX5_pass 39 = .ok (.return_, 1) := by decide +kernel
theorem dX6_isCharge_0 : decode cX6_isCharge 0 = .ok (.iload_n 0, 1) := by decide +kernel
theorem dX6_isCharge_1 : decode cX6_isCharge 1 = .ok (.iconst 1, 1) := by decide +kernel
theorem dX6_isCharge_2 : decode cX6_isCharge 2 = .ok (.if_icmp .lt 14, 3) := by decide +kernel
theorem dX6_isCharge_5 : decode cX6_isCharge 5 = .ok (.iload_n 0, 1) := by decide +kernel
theorem dX6_isCharge_6 : decode cX6_isCharge 6 = .ok (.sipush 999, 3) := by decide +kernel
theorem dX6_isCharge_9 : decode cX6_isCharge 9 = .ok (.if_icmp .gt 7, 3) := by decide +kernel
theorem dX6_isCharge_12 : decode cX6_isCharge 12 = .ok (.iconst 1, 1) := by decide +kernel
theorem dX6_isCharge_13 : decode cX6_isCharge 13 = .ok (.goto 4, 3) := by decide +kernel
theorem dX6_isCharge_16 : decode cX6_isCharge 16 = .ok (.iconst 0, 1) := by decide +kernel
theorem dX6_isCharge_17 : decode cX6_isCharge 17 = .ok (.ireturn, 1) := by decide +kernel
theorem dX7_thrown_0 : decode cX7_thrown 0 = .ok (.aload_n 0, 1) := by decide +kernel
theorem dX7_thrown_1 : decode cX7_thrown 1 = .ok (.getfield 66, 3) := by decide +kernel
theorem dX7_thrown_4 : decode cX7_thrown 4 = .ok (.ireturn, 1) := by decide +kernel
theorem dX7_isIn_0 : decode cX7_isIn 0 = .ok (.lload_n 0, 1) := by decide +kernel
theorem dX7_isIn_1 : decode cX7_isIn 1 = .ok (.lload_n 2, 1) := by decide +kernel
theorem dX7_isIn_2 : decode cX7_isIn 2 = .ok (.lcmp, 1) := by decide +kernel
theorem dX7_isIn_3 : decode cX7_isIn 3 = .ok (.ifCond .lt 14, 3) := by decide +kernel
theorem dX7_isIn_6 : decode cX7_isIn 6 = .ok (.lload_n 0, 1) := by decide +kernel
theorem dX7_isIn_7 : decode cX7_isIn 7 = .ok (.lload 4, 2) := by decide +kernel
theorem dX7_isIn_9 : decode cX7_isIn 9 = .ok (.lcmp, 1) := by decide +kernel
theorem dX7_isIn_10 : decode cX7_isIn 10 = .ok (.ifCond .gt 7, 3) := by decide +kernel
theorem dX7_isIn_13 : decode cX7_isIn 13 = .ok (.iconst 1, 1) := by decide +kernel
theorem dX7_isIn_14 : decode cX7_isIn 14 = .ok (.goto 4, 3) := by decide +kernel
theorem dX7_isIn_17 : decode cX7_isIn 17 = .ok (.iconst 0, 1) := by decide +kernel
theorem dX7_isIn_18 : decode cX7_isIn 18 = .ok (.ireturn, 1) := by decide +kernel
theorem dX7_truth_0 : decode cX7_truth 0 = .ok (.iload_n 0, 1) := by decide +kernel
theorem dX7_truth_1 : decode cX7_truth 1 = .ok (.ifCond .eq 7, 3) := by decide +kernel
theorem dX7_truth_4 : decode cX7_truth 4 = .ok (.iconst 1, 1) := by decide +kernel
theorem dX7_truth_5 : decode cX7_truth 5 = .ok (.goto 4, 3) := by decide +kernel
theorem dX7_truth_8 : decode cX7_truth 8 = .ok (.iconst 0, 1) := by decide +kernel
theorem dX7_truth_9 : decode cX7_truth 9 = .ok (.ireturn, 1) := by decide +kernel
theorem dX7_has_0 : decode cX7_has 0 = .ok (.iload_n 0, 1) := by decide +kernel
theorem dX7_has_1 : decode cX7_has 1 = .ok (.iload_n 1, 1) := by decide +kernel
theorem dX7_has_2 : decode cX7_has 2 = .ok (.ishr, 1) := by decide +kernel
theorem dX7_has_3 : decode cX7_has 3 = .ok (.iconst 1, 1) := by decide +kernel
theorem dX7_has_4 : decode cX7_has 4 = .ok (.iand, 1) := by decide +kernel
theorem dX7_has_5 : decode cX7_has 5 = .ok (.iconst 1, 1) := by decide +kernel
theorem dX7_has_6 : decode cX7_has 6 = .ok (.if_icmp .ne 7, 3) := by decide +kernel
theorem dX7_has_9 : decode cX7_has 9 = .ok (.iconst 1, 1) := by decide +kernel
theorem dX7_has_10 : decode cX7_has 10 = .ok (.goto 4, 3) := by decide +kernel
theorem dX7_has_13 : decode cX7_has 13 = .ok (.iconst 0, 1) := by decide +kernel
theorem dX7_has_14 : decode cX7_has 14 = .ok (.ireturn, 1) := by decide +kernel
theorem dX7_goes_0 : decode cX7_goes 0 = .ok (.aload_n 0, 1) := by decide +kernel
theorem dX7_goes_1 : decode cX7_goes 1 = .ok (.iload_n 1, 1) := by decide +kernel
theorem dX7_goes_2 : decode cX7_goes 2 = .ok (.ifCond .ne 7, 3) := by decide +kernel
theorem dX7_goes_5 : decode cX7_goes 5 = .ok (.iconst 1, 1) := by decide +kernel
theorem dX7_goes_6 : decode cX7_goes 6 = .ok (.goto 4, 3) := by decide +kernel
theorem dX7_goes_9 : decode cX7_goes 9 = .ok (.iconst 0, 1) := by decide +kernel
theorem dX7_goes_10 : decode cX7_goes 10 = .ok (.invokestatic 69, 3) := by decide +kernel
theorem dX7_goes_13 : decode cX7_goes 13 = .ok (.putfield 66, 3) := by decide +kernel
theorem dX7_goes_16 : decode cX7_goes 16 = .ok (.iload_n 1, 1) := by decide +kernel
theorem dX7_goes_17 : decode cX7_goes 17 = .ok (.ireturn, 1) := by decide +kernel
theorem dX7_goesBoth_0 : decode cX7_goesBoth 0 = .ok (.aload_n 0, 1) := by decide +kernel
theorem dX7_goesBoth_1 : decode cX7_goesBoth 1 = .ok (.iload_n 1, 1) := by decide +kernel
theorem dX7_goesBoth_2 : decode cX7_goesBoth 2 = .ok (.ifCond .ne 7, 3) := by decide +kernel
theorem dX7_goesBoth_5 : decode cX7_goesBoth 5 = .ok (.iconst 1, 1) := by decide +kernel
theorem dX7_goesBoth_6 : decode cX7_goesBoth 6 = .ok (.goto 12, 3) := by decide +kernel
theorem dX7_goesBoth_9 : decode cX7_goesBoth 9 = .ok (.iload_n 2, 1) := by decide +kernel
theorem dX7_goesBoth_10 : decode cX7_goesBoth 10 = .ok (.ifCond .ne 7, 3) := by decide +kernel
theorem dX7_goesBoth_13 : decode cX7_goesBoth 13 = .ok (.iconst 2, 1) := by decide +kernel
theorem dX7_goesBoth_14 : decode cX7_goesBoth 14 = .ok (.goto 4, 3) := by decide +kernel
theorem dX7_goesBoth_17 : decode cX7_goesBoth 17 = .ok (.iconst 0, 1) := by decide +kernel
theorem dX7_goesBoth_18 : decode cX7_goesBoth 18 = .ok (.putfield 66, 3) := by decide +kernel
theorem dX7_goesBoth_21 : decode cX7_goesBoth 21 = .ok (.aload_n 0, 1) := by decide +kernel
theorem dX7_goesBoth_22 : decode cX7_goesBoth 22 = .ok (.getfield 66, 3) := by decide +kernel
theorem dX7_goesBoth_25 : decode cX7_goesBoth 25 = .ok (.ifCond .ne 7, 3) := by decide +kernel
theorem dX7_goesBoth_28 : decode cX7_goesBoth 28 = .ok (.iconst 1, 1) := by decide +kernel
theorem dX7_goesBoth_29 : decode cX7_goesBoth 29 = .ok (.goto 4, 3) := by decide +kernel
theorem dX7_goesBoth_32 : decode cX7_goesBoth 32 = .ok (.iconst 0, 1) := by decide +kernel
theorem dX7_goesBoth_33 : decode cX7_goesBoth 33 = .ok (.ireturn, 1) := by decide +kernel
theorem dX7_four_0 : decode cX7_four 0 = .ok (.bipush 24, 2) := by decide +kernel
theorem dX7_four_2 : decode cX7_four 2 = .ok (.istore_n 2, 1) := by decide +kernel
theorem dX7_four_3 : decode cX7_four 3 = .ok (.iload_n 2, 1) := by decide +kernel
theorem dX7_four_4 : decode cX7_four 4 = .ok (.ifCond .lt 35, 3) := by decide +kernel
theorem dX7_four_7 : decode cX7_four 7 = .ok (.aload_n 0, 1) := by decide +kernel
theorem dX7_four_8 : decode cX7_four 8 = .ok (.getfield 7, 3) := by decide +kernel
theorem dX7_four_11 : decode cX7_four 11 = .ok (.aload_n 0, 1) := by decide +kernel
theorem dX7_four_12 : decode cX7_four 12 = .ok (.getfield 73, 3) := by decide +kernel
theorem dX7_four_15 : decode cX7_four 15 = .ok (.iload_n 1, 1) := by decide +kernel
theorem dX7_four_16 : decode cX7_four 16 = .ok (.iload_n 2, 1) := by decide +kernel
theorem dX7_four_17 : decode cX7_four 17 = .ok (.ishr, 1) := by decide +kernel
theorem dX7_four_18 : decode cX7_four 18 = .ok (.sipush 255, 3) := by decide +kernel
theorem dX7_four_21 : decode cX7_four 21 = .ok (.iand, 1) := by decide +kernel
theorem dX7_four_22 : decode cX7_four 22 = .ok (.iastore, 1) := by decide +kernel
theorem dX7_four_23 : decode cX7_four 23 = .ok (.aload_n 0, 1) := by decide +kernel
theorem dX7_four_24 : decode cX7_four 24 = .ok (.dup, 1) := by decide +kernel
theorem dX7_four_25 : decode cX7_four 25 = .ok (.getfield 73, 3) := by decide +kernel
theorem dX7_four_28 : decode cX7_four 28 = .ok (.iconst 1, 1) := by decide +kernel
theorem dX7_four_29 : decode cX7_four 29 = .ok (.iadd, 1) := by decide +kernel
theorem dX7_four_30 : decode cX7_four 30 = .ok (.putfield 73, 3) := by decide +kernel
theorem dX7_four_33 : decode cX7_four 33 = .ok (.iinc 2 (-8), 3) := by decide +kernel
theorem dX7_four_36 : decode cX7_four 36 = .ok (.goto (-33), 3) := by decide +kernel
theorem dX7_four_39 : decode cX7_four 39 = .ok (.return_, 1) := by decide +kernel
theorem dX7_feed_0 : decode cX7_feed 0 = .ok (.aload_n 0, 1) := by decide +kernel
theorem dX7_feed_1 : decode cX7_feed 1 = .ok (.aload_n 0, 1) := by decide +kernel
theorem dX7_feed_2 : decode cX7_feed 2 = .ok (.getfield 73, 3) := by decide +kernel
theorem dX7_feed_5 : decode cX7_feed 5 = .ok (.bipush 20, 2) := by decide +kernel
theorem dX7_feed_7 : decode cX7_feed 7 = .ok (.iadd, 1) := by decide +kernel
theorem dX7_feed_8 : decode cX7_feed 8 = .ok (.sipush 700, 3) := by decide +kernel
theorem dX7_feed_11 : decode cX7_feed 11 = .ok (.if_icmp .gt 7, 3) := by decide +kernel
theorem dX7_feed_14 : decode cX7_feed 14 = .ok (.iconst 1, 1) := by decide +kernel
theorem dX7_feed_15 : decode cX7_feed 15 = .ok (.goto 4, 3) := by decide +kernel
theorem dX7_feed_18 : decode cX7_feed 18 = .ok (.iconst 0, 1) := by decide +kernel
theorem dX7_feed_19 : decode cX7_feed 19 = .ok (.invokevirtual 76, 3) := by decide +kernel
theorem dX7_feed_22 : decode cX7_feed 22 = .ok (.ifCond .ne 5, 3) := by decide +kernel
theorem dX7_feed_25 : decode cX7_feed 25 = .ok (.iconst 0, 1) := by decide +kernel
theorem dX7_feed_26 : decode cX7_feed 26 = .ok (.ireturn, 1) := by decide +kernel
theorem dX7_feed_27 : decode cX7_feed 27 = .ok (.aload_n 0, 1) := by decide +kernel
theorem dX7_feed_28 : decode cX7_feed 28 = .ok (.iload_n 1, 1) := by decide +kernel
theorem dX7_feed_29 : decode cX7_feed 29 = .ok (.invokevirtual 80, 3) := by decide +kernel
theorem dX7_feed_32 : decode cX7_feed 32 = .ok (.aload_n 0, 1) := by decide +kernel
theorem dX7_feed_33 : decode cX7_feed 33 = .ok (.iload_n 2, 1) := by decide +kernel
theorem dX7_feed_34 : decode cX7_feed 34 = .ok (.invokevirtual 80, 3) := by decide +kernel
theorem dX7_feed_37 : decode cX7_feed 37 = .ok (.aload_n 0, 1) := by decide +kernel
theorem dX7_feed_38 : decode cX7_feed 38 = .ok (.iload_n 3, 1) := by decide +kernel
theorem dX7_feed_39 : decode cX7_feed 39 = .ok (.invokevirtual 80, 3) := by decide +kernel
theorem dX7_feed_42 : decode cX7_feed 42 = .ok (.aload_n 0, 1) := by decide +kernel
theorem dX7_feed_43 : decode cX7_feed 43 = .ok (.iload 4, 2) := by decide +kernel
theorem dX7_feed_45 : decode cX7_feed 45 = .ok (.invokevirtual 80, 3) := by decide +kernel
theorem dX7_feed_48 : decode cX7_feed 48 = .ok (.aload_n 0, 1) := by decide +kernel
theorem dX7_feed_49 : decode cX7_feed 49 = .ok (.iload 5, 2) := by decide +kernel
theorem dX7_feed_51 : decode cX7_feed 51 = .ok (.invokevirtual 80, 3) := by decide +kernel
theorem dX7_feed_54 : decode cX7_feed 54 = .ok (.aload_n 0, 1) := by decide +kernel
theorem dX7_feed_55 : decode cX7_feed 55 = .ok (.getfield 73, 3) := by decide +kernel
theorem dX7_feed_58 : decode cX7_feed 58 = .ok (.ireturn, 1) := by decide +kernel
theorem dX7_truncate_0 : decode cX7_truncate 0 = .ok (.aload_n 0, 1) := by decide +kernel
theorem dX7_truncate_1 : decode cX7_truncate 1 = .ok (.iload_n 1, 1) := by decide +kernel
theorem dX7_truncate_2 : decode cX7_truncate 2 = .ok (.i2l, 1) := by decide +kernel
theorem dX7_truncate_3 : decode cX7_truncate 3 = .ok (.lconst 0, 1) := by decide +kernel
theorem dX7_truncate_4 : decode cX7_truncate 4 = .ok (.aload_n 0, 1) := by decide +kernel
theorem dX7_truncate_5 : decode cX7_truncate 5 = .ok (.getfield 73, 3) := by decide +kernel
theorem dX7_truncate_8 : decode cX7_truncate 8 = .ok (.i2l, 1) := by decide +kernel
theorem dX7_truncate_9 : decode cX7_truncate 9 = .ok (.invokestatic 84, 3) := by decide +kernel
theorem dX7_truncate_12 : decode cX7_truncate 12 = .ok (.invokevirtual 76, 3) := by decide +kernel
theorem dX7_truncate_15 : decode cX7_truncate 15 = .ok (.ifCond .ne 5, 3) := by decide +kernel
theorem dX7_truncate_18 : decode cX7_truncate 18 = .ok (.iconst 0, 1) := by decide +kernel
theorem dX7_truncate_19 : decode cX7_truncate 19 = .ok (.ireturn, 1) := by decide +kernel
theorem dX7_truncate_20 : decode cX7_truncate 20 = .ok (.aload_n 0, 1) := by decide +kernel
theorem dX7_truncate_21 : decode cX7_truncate 21 = .ok (.iload_n 1, 1) := by decide +kernel
theorem dX7_truncate_22 : decode cX7_truncate 22 = .ok (.putfield 73, 3) := by decide +kernel
theorem dX7_truncate_25 : decode cX7_truncate 25 = .ok (.iload_n 1, 1) := by decide +kernel
theorem dX7_truncate_26 : decode cX7_truncate 26 = .ok (.ireturn, 1) := by decide +kernel
theorem dX7_here_0 : decode cX7_here 0 = .ok (.aload_n 0, 1) := by decide +kernel
theorem dX7_here_1 : decode cX7_here 1 = .ok (.getfield 88, 3) := by decide +kernel
theorem dX7_here_4 : decode cX7_here 4 = .ok (.iload_n 1, 1) := by decide +kernel
theorem dX7_here_5 : decode cX7_here 5 = .ok (.iadd, 1) := by decide +kernel
theorem dX7_here_6 : decode cX7_here 6 = .ok (.aload_n 0, 1) := by decide +kernel
theorem dX7_here_7 : decode cX7_here 7 = .ok (.getfield 91, 3) := by decide +kernel
theorem dX7_here_10 : decode cX7_here 10 = .ok (.if_icmp .ge 17, 3) := by decide +kernel
theorem dX7_here_13 : decode cX7_here 13 = .ok (.aload_n 0, 1) := by decide +kernel
theorem dX7_here_14 : decode cX7_here 14 = .ok (.getfield 7, 3) := by decide +kernel
theorem dX7_here_17 : decode cX7_here 17 = .ok (.aload_n 0, 1) := by decide +kernel
theorem dX7_here_18 : decode cX7_here 18 = .ok (.getfield 88, 3) := by decide +kernel
theorem dX7_here_21 : decode cX7_here 21 = .ok (.iload_n 1, 1) := by decide +kernel
theorem dX7_here_22 : decode cX7_here 22 = .ok (.iadd, 1) := by decide +kernel
theorem dX7_here_23 : decode cX7_here 23 = .ok (.iaload, 1) := by decide +kernel
theorem dX7_here_24 : decode cX7_here 24 = .ok (.goto 4, 3) := by decide +kernel
theorem dX7_here_27 : decode cX7_here 27 = .ok (.iconst (-1), 1) := by decide +kernel
theorem dX7_here_28 : decode cX7_here 28 = .ok (.ireturn, 1) := by decide +kernel
theorem dX7_isLetter_0 : decode cX7_isLetter 0 = .ok (.iload_n 0, 1) := by decide +kernel
theorem dX7_isLetter_1 : decode cX7_isLetter 1 = .ok (.bipush 97, 2) := by decide +kernel
theorem dX7_isLetter_3 : decode cX7_isLetter 3 = .ok (.if_icmp .lt 13, 3) := by decide +kernel
theorem dX7_isLetter_6 : decode cX7_isLetter 6 = .ok (.iload_n 0, 1) := by decide +kernel
theorem dX7_isLetter_7 : decode cX7_isLetter 7 = .ok (.bipush 122, 2) := by decide +kernel
theorem dX7_isLetter_9 : decode cX7_isLetter 9 = .ok (.if_icmp .gt 7, 3) := by decide +kernel
theorem dX7_isLetter_12 : decode cX7_isLetter 12 = .ok (.iconst 1, 1) := by decide +kernel
theorem dX7_isLetter_13 : decode cX7_isLetter 13 = .ok (.goto 4, 3) := by decide +kernel
theorem dX7_isLetter_16 : decode cX7_isLetter 16 = .ok (.iconst 0, 1) := by decide +kernel
theorem dX7_isLetter_17 : decode cX7_isLetter 17 = .ok (.ireturn, 1) := by decide +kernel
theorem dX7_isDigit_0 : decode cX7_isDigit 0 = .ok (.iload_n 0, 1) := by decide +kernel
theorem dX7_isDigit_1 : decode cX7_isDigit 1 = .ok (.bipush 48, 2) := by decide +kernel
theorem dX7_isDigit_3 : decode cX7_isDigit 3 = .ok (.if_icmp .lt 13, 3) := by decide +kernel
theorem dX7_isDigit_6 : decode cX7_isDigit 6 = .ok (.iload_n 0, 1) := by decide +kernel
theorem dX7_isDigit_7 : decode cX7_isDigit 7 = .ok (.bipush 57, 2) := by decide +kernel
theorem dX7_isDigit_9 : decode cX7_isDigit 9 = .ok (.if_icmp .gt 7, 3) := by decide +kernel
theorem dX7_isDigit_12 : decode cX7_isDigit 12 = .ok (.iconst 1, 1) := by decide +kernel
theorem dX7_isDigit_13 : decode cX7_isDigit 13 = .ok (.goto 4, 3) := by decide +kernel
theorem dX7_isDigit_16 : decode cX7_isDigit 16 = .ok (.iconst 0, 1) := by decide +kernel
theorem dX7_isDigit_17 : decode cX7_isDigit 17 = .ok (.ireturn, 1) := by decide +kernel
theorem dX7_goOn_0 : decode cX7_goOn 0 = .ok (.aload_n 0, 1) := by decide +kernel
theorem dX7_goOn_1 : decode cX7_goOn 1 = .ok (.iconst 0, 1) := by decide +kernel
theorem dX7_goOn_2 : decode cX7_goOn 2 = .ok (.invokevirtual 94, 3) := by decide +kernel
theorem dX7_goOn_5 : decode cX7_goOn 5 = .ok (.bipush 32, 2) := by decide +kernel
theorem dX7_goOn_7 : decode cX7_goOn 7 = .ok (.if_icmp .eq 13, 3) := by decide +kernel
theorem dX7_goOn_10 : decode cX7_goOn 10 = .ok (.aload_n 0, 1) := by decide +kernel
theorem dX7_goOn_11 : decode cX7_goOn 11 = .ok (.iconst 0, 1) := by decide +kernel
theorem dX7_goOn_12 : decode cX7_goOn 12 = .ok (.invokevirtual 94, 3) := by decide +kernel
theorem dX7_goOn_15 : decode cX7_goOn 15 = .ok (.bipush 10, 2) := by decide +kernel
theorem dX7_goOn_17 : decode cX7_goOn 17 = .ok (.if_icmp .ne 16, 3) := by decide +kernel
theorem dX7_goOn_20 : decode cX7_goOn 20 = .ok (.aload_n 0, 1) := by decide +kernel
theorem dX7_goOn_21 : decode cX7_goOn 21 = .ok (.dup, 1) := by decide +kernel
theorem dX7_goOn_22 : decode cX7_goOn 22 = .ok (.getfield 88, 3) := by decide +kernel
theorem dX7_goOn_25 : decode cX7_goOn 25 = .ok (.iconst 1, 1) := by decide +kernel
theorem dX7_goOn_26 : decode cX7_goOn 26 = .ok (.iadd, 1) := by decide +kernel
theorem dX7_goOn_27 : decode cX7_goOn 27 = .ok (.putfield 88, 3) := by decide +kernel
theorem dX7_goOn_30 : decode cX7_goOn 30 = .ok (.goto (-30), 3) := by decide +kernel
theorem dX7_goOn_33 : decode cX7_goOn 33 = .ok (.aload_n 0, 1) := by decide +kernel
theorem dX7_goOn_34 : decode cX7_goOn 34 = .ok (.aload_n 0, 1) := by decide +kernel
theorem dX7_goOn_35 : decode cX7_goOn 35 = .ok (.getfield 88, 3) := by decide +kernel
theorem dX7_goOn_38 : decode cX7_goOn 38 = .ok (.putfield 98, 3) := by decide +kernel
theorem dX7_goOn_41 : decode cX7_goOn 41 = .ok (.aload_n 0, 1) := by decide +kernel
theorem dX7_goOn_42 : decode cX7_goOn 42 = .ok (.lconst 0, 1) := by decide +kernel
theorem dX7_goOn_43 : decode cX7_goOn 43 = .ok (.putfield 101, 3) := by decide +kernel
theorem dX7_goOn_46 : decode cX7_goOn 46 = .ok (.aload_n 0, 1) := by decide +kernel
theorem dX7_goOn_47 : decode cX7_goOn 47 = .ok (.iconst 0, 1) := by decide +kernel
theorem dX7_goOn_48 : decode cX7_goOn 48 = .ok (.putfield 105, 3) := by decide +kernel
theorem dX7_goOn_51 : decode cX7_goOn 51 = .ok (.aload_n 0, 1) := by decide +kernel
theorem dX7_goOn_52 : decode cX7_goOn 52 = .ok (.iconst 0, 1) := by decide +kernel
theorem dX7_goOn_53 : decode cX7_goOn 53 = .ok (.invokevirtual 94, 3) := by decide +kernel
theorem dX7_goOn_56 : decode cX7_goOn 56 = .ok (.istore_n 1, 1) := by decide +kernel
theorem dX7_goOn_57 : decode cX7_goOn 57 = .ok (.iconst 0, 1) := by decide +kernel
theorem dX7_goOn_58 : decode cX7_goOn 58 = .ok (.istore_n 2, 1) := by decide +kernel
theorem dX7_goOn_59 : decode cX7_goOn 59 = .ok (.iload_n 1, 1) := by decide +kernel
theorem dX7_goOn_60 : decode cX7_goOn 60 = .ok (.ifCond .ge 9, 3) := by decide +kernel
theorem dX7_goOn_63 : decode cX7_goOn 63 = .ok (.aload_n 0, 1) := by decide +kernel
theorem dX7_goOn_64 : decode cX7_goOn 64 = .ok (.iconst 0, 1) := by decide +kernel
theorem dX7_goOn_65 : decode cX7_goOn 65 = .ok (.putfield 108, 3) := by decide +kernel
theorem dX7_goOn_68 : decode cX7_goOn 68 = .ok (.return_, 1) := by decide +kernel
theorem dX7_goOn_69 : decode cX7_goOn 69 = .ok (.iload_n 1, 1) := by decide +kernel
theorem dX7_goOn_70 : decode cX7_goOn 70 = .ok (.invokestatic 111, 3) := by decide +kernel
theorem dX7_goOn_73 : decode cX7_goOn 73 = .ok (.ifCond .eq 66, 3) := by decide +kernel
theorem dX7_goOn_76 : decode cX7_goOn 76 = .ok (.aload_n 0, 1) := by decide +kernel
theorem dX7_goOn_77 : decode cX7_goOn 77 = .ok (.iload_n 2, 1) := by decide +kernel
theorem dX7_goOn_78 : decode cX7_goOn 78 = .ok (.invokevirtual 94, 3) := by decide +kernel
theorem dX7_goOn_81 : decode cX7_goOn 81 = .ok (.invokestatic 111, 3) := by decide +kernel
theorem dX7_goOn_84 : decode cX7_goOn 84 = .ok (.ifCond .eq 37, 3) := by decide +kernel
theorem dX7_goOn_87 : decode cX7_goOn 87 = .ok (.iload_n 2, 1) := by decide +kernel
theorem dX7_goOn_88 : decode cX7_goOn 88 = .ok (.bipush 8, 2) := by decide +kernel
theorem dX7_goOn_90 : decode cX7_goOn 90 = .ok (.if_icmp .ge 25, 3) := by decide +kernel
theorem dX7_goOn_93 : decode cX7_goOn 93 = .ok (.aload_n 0, 1) := by decide +kernel
theorem dX7_goOn_94 : decode cX7_goOn 94 = .ok (.aload_n 0, 1) := by decide +kernel
theorem dX7_goOn_95 : decode cX7_goOn 95 = .ok (.getfield 101, 3) := by decide +kernel
theorem dX7_goOn_98 : decode cX7_goOn 98 = .ok (.iconst 5, 1) := by decide +kernel
theorem dX7_goOn_99 : decode cX7_goOn 99 = .ok (.lshl, 1) := by decide +kernel
theorem dX7_goOn_100 : decode cX7_goOn 100 = .ok (.aload_n 0, 1) := by decide +kernel
theorem dX7_goOn_101 : decode cX7_goOn 101 = .ok (.iload_n 2, 1) := by decide +kernel
theorem dX7_goOn_102 : decode cX7_goOn 102 = .ok (.invokevirtual 94, 3) := by decide +kernel
theorem dX7_goOn_105 : decode cX7_goOn 105 = .ok (.bipush 97, 2) := by decide +kernel
theorem dX7_goOn_107 : decode cX7_goOn 107 = .ok (.isub, 1) := by decide +kernel
theorem dX7_goOn_108 : decode cX7_goOn 108 = .ok (.iconst 1, 1) := by decide +kernel
theorem dX7_goOn_109 : decode cX7_goOn 109 = .ok (.iadd, 1) := by decide +kernel
theorem dX7_goOn_110 : decode cX7_goOn 110 = .ok (.i2l, 1) := by decide +kernel
theorem dX7_goOn_111 : decode cX7_goOn 111 = .ok (.lor, 1) := by decide +kernel
theorem dX7_goOn_112 : decode cX7_goOn 112 = .ok (.putfield 101, 3) := by decide +kernel
theorem dX7_goOn_115 : decode cX7_goOn 115 = .ok (.iinc 2 1, 3) := by decide +kernel
theorem dX7_goOn_118 : decode cX7_goOn 118 = .ok (.goto (-42), 3) := by decide +kernel
theorem dX7_goOn_121 : decode cX7_goOn 121 = .ok (.aload_n 0, 1) := by decide +kernel
theorem dX7_goOn_122 : decode cX7_goOn 122 = .ok (.iload_n 2, 1) := by decide +kernel
theorem dX7_goOn_123 : decode cX7_goOn 123 = .ok (.bipush 8, 2) := by decide +kernel
theorem dX7_goOn_125 : decode cX7_goOn 125 = .ok (.if_icmp .le 7, 3) := by decide +kernel
theorem dX7_goOn_128 : decode cX7_goOn 128 = .ok (.iconst 4, 1) := by decide +kernel
theorem dX7_goOn_129 : decode cX7_goOn 129 = .ok (.goto 4, 3) := by decide +kernel
theorem dX7_goOn_132 : decode cX7_goOn 132 = .ok (.iconst 1, 1) := by decide +kernel
theorem dX7_goOn_133 : decode cX7_goOn 133 = .ok (.putfield 108, 3) := by decide +kernel
theorem dX7_goOn_136 : decode cX7_goOn 136 = .ok (.goto 103, 3) := by decide +kernel
theorem dX7_goOn_139 : decode cX7_goOn 139 = .ok (.iload_n 1, 1) := by decide +kernel
theorem dX7_goOn_140 : decode cX7_goOn 140 = .ok (.invokestatic 115, 3) := by decide +kernel
theorem dX7_goOn_143 : decode cX7_goOn 143 = .ok (.ifCond .eq 62, 3) := by decide +kernel
theorem dX7_goOn_146 : decode cX7_goOn 146 = .ok (.aload_n 0, 1) := by decide +kernel
theorem dX7_goOn_147 : decode cX7_goOn 147 = .ok (.iload_n 2, 1) := by decide +kernel
theorem dX7_goOn_148 : decode cX7_goOn 148 = .ok (.invokevirtual 94, 3) := by decide +kernel
theorem dX7_goOn_151 : decode cX7_goOn 151 = .ok (.invokestatic 115, 3) := by decide +kernel
theorem dX7_goOn_154 : decode cX7_goOn 154 = .ok (.ifCond .eq 34, 3) := by decide +kernel
theorem dX7_goOn_157 : decode cX7_goOn 157 = .ok (.iload_n 2, 1) := by decide +kernel
theorem dX7_goOn_158 : decode cX7_goOn 158 = .ok (.iconst 3, 1) := by decide +kernel
theorem dX7_goOn_159 : decode cX7_goOn 159 = .ok (.if_icmp .ge 23, 3) := by decide +kernel
theorem dX7_goOn_162 : decode cX7_goOn 162 = .ok (.aload_n 0, 1) := by decide +kernel
theorem dX7_goOn_163 : decode cX7_goOn 163 = .ok (.bipush 10, 2) := by decide +kernel
theorem dX7_goOn_165 : decode cX7_goOn 165 = .ok (.aload_n 0, 1) := by decide +kernel
theorem dX7_goOn_166 : decode cX7_goOn 166 = .ok (.getfield 105, 3) := by decide +kernel
theorem dX7_goOn_169 : decode cX7_goOn 169 = .ok (.imul, 1) := by decide +kernel
theorem dX7_goOn_170 : decode cX7_goOn 170 = .ok (.aload_n 0, 1) := by decide +kernel
theorem dX7_goOn_171 : decode cX7_goOn 171 = .ok (.iload_n 2, 1) := by decide +kernel
theorem dX7_goOn_172 : decode cX7_goOn 172 = .ok (.invokevirtual 94, 3) := by decide +kernel
theorem dX7_goOn_175 : decode cX7_goOn 175 = .ok (.iadd, 1) := by decide +kernel
theorem dX7_goOn_176 : decode cX7_goOn 176 = .ok (.bipush 48, 2) := by decide +kernel
theorem dX7_goOn_178 : decode cX7_goOn 178 = .ok (.isub, 1) := by decide +kernel
theorem dX7_goOn_179 : decode cX7_goOn 179 = .ok (.putfield 105, 3) := by decide +kernel
theorem dX7_goOn_182 : decode cX7_goOn 182 = .ok (.iinc 2 1, 3) := by decide +kernel
theorem dX7_goOn_185 : decode cX7_goOn 185 = .ok (.goto (-39), 3) := by decide +kernel
theorem dX7_goOn_188 : decode cX7_goOn 188 = .ok (.aload_n 0, 1) := by decide +kernel
theorem dX7_goOn_189 : decode cX7_goOn 189 = .ok (.iload_n 2, 1) := by decide +kernel
theorem dX7_goOn_190 : decode cX7_goOn 190 = .ok (.iconst 3, 1) := by decide +kernel
theorem dX7_goOn_191 : decode cX7_goOn 191 = .ok (.if_icmp .le 7, 3) := by decide +kernel
theorem dX7_goOn_194 : decode cX7_goOn 194 = .ok (.iconst 4, 1) := by decide +kernel
theorem dX7_goOn_195 : decode cX7_goOn 195 = .ok (.goto 4, 3) := by decide +kernel
theorem dX7_goOn_198 : decode cX7_goOn 198 = .ok (.iconst 2, 1) := by decide +kernel
theorem dX7_goOn_199 : decode cX7_goOn 199 = .ok (.putfield 108, 3) := by decide +kernel
theorem dX7_goOn_202 : decode cX7_goOn 202 = .ok (.goto 37, 3) := by decide +kernel
theorem dX7_goOn_205 : decode cX7_goOn 205 = .ok (.aload_n 0, 1) := by decide +kernel
theorem dX7_goOn_206 : decode cX7_goOn 206 = .ok (.iload_n 1, 1) := by decide +kernel
theorem dX7_goOn_207 : decode cX7_goOn 207 = .ok (.bipush 59, 2) := by decide +kernel
theorem dX7_goOn_209 : decode cX7_goOn 209 = .ok (.if_icmp .eq 15, 3) := by decide +kernel
theorem dX7_goOn_212 : decode cX7_goOn 212 = .ok (.iload_n 1, 1) := by decide +kernel
theorem dX7_goOn_213 : decode cX7_goOn 213 = .ok (.bipush 40, 2) := by decide +kernel
theorem dX7_goOn_215 : decode cX7_goOn 215 = .ok (.if_icmp .eq 9, 3) := by decide +kernel
theorem dX7_goOn_218 : decode cX7_goOn 218 = .ok (.iload_n 1, 1) := by decide +kernel
theorem dX7_goOn_219 : decode cX7_goOn 219 = .ok (.bipush 41, 2) := by decide +kernel
theorem dX7_goOn_221 : decode cX7_goOn 221 = .ok (.if_icmp .ne 7, 3) := by decide +kernel
theorem dX7_goOn_224 : decode cX7_goOn 224 = .ok (.iconst 3, 1) := by decide +kernel
theorem dX7_goOn_225 : decode cX7_goOn 225 = .ok (.goto 4, 3) := by decide +kernel
theorem dX7_goOn_228 : decode cX7_goOn 228 = .ok (.iconst 4, 1) := by decide +kernel
theorem dX7_goOn_229 : decode cX7_goOn 229 = .ok (.putfield 108, 3) := by decide +kernel
theorem dX7_goOn_232 : decode cX7_goOn 232 = .ok (.aload_n 0, 1) := by decide +kernel
theorem dX7_goOn_233 : decode cX7_goOn 233 = .ok (.iload_n 1, 1) := by decide +kernel
theorem dX7_goOn_234 : decode cX7_goOn 234 = .ok (.putfield 105, 3) := by decide +kernel
theorem dX7_goOn_237 : decode cX7_goOn 237 = .ok (.iconst 1, 1) := by decide +kernel
theorem dX7_goOn_238 : decode cX7_goOn 238 = .ok (.istore_n 2, 1) := by decide +kernel
theorem dX7_goOn_239 : decode cX7_goOn 239 = .ok (.aload_n 0, 1) := by decide +kernel
theorem dX7_goOn_240 : decode cX7_goOn 240 = .ok (.dup, 1) := by decide +kernel
theorem dX7_goOn_241 : decode cX7_goOn 241 = .ok (.getfield 88, 3) := by decide +kernel
theorem dX7_goOn_244 : decode cX7_goOn 244 = .ok (.iload_n 2, 1) := by decide +kernel
theorem dX7_goOn_245 : decode cX7_goOn 245 = .ok (.iadd, 1) := by decide +kernel
theorem dX7_goOn_246 : decode cX7_goOn 246 = .ok (.putfield 88, 3) := by decide +kernel
theorem dX7_goOn_249 : decode cX7_goOn 249 = .ok (.return_, 1) := by decide +kernel
theorem dX7_wrong_0 : decode cX7_wrong 0 = .ok (.aload_n 0, 1) := by decide +kernel
theorem dX7_wrong_1 : decode cX7_wrong 1 = .ok (.getfield 118, 3) := by decide +kernel
theorem dX7_wrong_4 : decode cX7_wrong 4 = .ok (.ifCond .le 4, 3) := by decide +kernel
theorem dX7_wrong_7 : decode cX7_wrong 7 = .ok (.return_, 1) := by decide +kernel
theorem dX7_wrong_8 : decode cX7_wrong 8 = .ok (.aload_n 0, 1) := by decide +kernel
theorem dX7_wrong_9 : decode cX7_wrong 9 = .ok (.aload_n 0, 1) := by decide +kernel
theorem dX7_wrong_10 : decode cX7_wrong 10 = .ok (.getfield 108, 3) := by decide +kernel
theorem dX7_wrong_13 : decode cX7_wrong 13 = .ok (.iconst 4, 1) := by decide +kernel
theorem dX7_wrong_14 : decode cX7_wrong 14 = .ok (.if_icmp .ne 7, 3) := by decide +kernel
theorem dX7_wrong_17 : decode cX7_wrong 17 = .ok (.iconst 1, 1) := by decide +kernel
theorem dX7_wrong_18 : decode cX7_wrong 18 = .ok (.goto 4, 3) := by decide +kernel
theorem dX7_wrong_21 : decode cX7_wrong 21 = .ok (.iload_n 1, 1) := by decide +kernel
theorem dX7_wrong_22 : decode cX7_wrong 22 = .ok (.putfield 118, 3) := by decide +kernel
theorem dX7_wrong_25 : decode cX7_wrong 25 = .ok (.aload_n 0, 1) := by decide +kernel
theorem dX7_wrong_26 : decode cX7_wrong 26 = .ok (.aload_n 0, 1) := by decide +kernel
theorem dX7_wrong_27 : decode cX7_wrong 27 = .ok (.getfield 98, 3) := by decide +kernel
theorem dX7_wrong_30 : decode cX7_wrong 30 = .ok (.putfield 13, 3) := by decide +kernel
theorem dX7_wrong_33 : decode cX7_wrong 33 = .ok (.return_, 1) := by decide +kernel
theorem dX7_isGood_0 : decode cX7_isGood 0 = .ok (.aload_n 0, 1) := by decide +kernel
theorem dX7_isGood_1 : decode cX7_isGood 1 = .ok (.getfield 118, 3) := by decide +kernel
theorem dX7_isGood_4 : decode cX7_isGood 4 = .ok (.ifCond .ne 7, 3) := by decide +kernel
theorem dX7_isGood_7 : decode cX7_isGood 7 = .ok (.iconst 1, 1) := by decide +kernel
theorem dX7_isGood_8 : decode cX7_isGood 8 = .ok (.goto 4, 3) := by decide +kernel
theorem dX7_isGood_11 : decode cX7_isGood 11 = .ok (.iconst 0, 1) := by decide +kernel
theorem dX7_isGood_12 : decode cX7_isGood 12 = .ok (.ireturn, 1) := by decide +kernel
theorem dX7_isWord_0 : decode cX7_isWord 0 = .ok (.aload_n 0, 1) := by decide +kernel
theorem dX7_isWord_1 : decode cX7_isWord 1 = .ok (.getfield 118, 3) := by decide +kernel
theorem dX7_isWord_4 : decode cX7_isWord 4 = .ok (.ifCond .ne 24, 3) := by decide +kernel
theorem dX7_isWord_7 : decode cX7_isWord 7 = .ok (.aload_n 0, 1) := by decide +kernel
theorem dX7_isWord_8 : decode cX7_isWord 8 = .ok (.getfield 108, 3) := by decide +kernel
theorem dX7_isWord_11 : decode cX7_isWord 11 = .ok (.iconst 1, 1) := by decide +kernel
theorem dX7_isWord_12 : decode cX7_isWord 12 = .ok (.if_icmp .ne 16, 3) := by decide +kernel
theorem dX7_isWord_15 : decode cX7_isWord 15 = .ok (.aload_n 0, 1) := by decide +kernel
theorem dX7_isWord_16 : decode cX7_isWord 16 = .ok (.getfield 101, 3) := by decide +kernel
theorem dX7_isWord_19 : decode cX7_isWord 19 = .ok (.lload_n 1, 1) := by decide +kernel
theorem dX7_isWord_20 : decode cX7_isWord 20 = .ok (.lcmp, 1) := by decide +kernel
theorem dX7_isWord_21 : decode cX7_isWord 21 = .ok (.ifCond .ne 7, 3) := by decide +kernel
theorem dX7_isWord_24 : decode cX7_isWord 24 = .ok (.iconst 1, 1) := by decide +kernel
theorem dX7_isWord_25 : decode cX7_isWord 25 = .ok (.goto 4, 3) := by decide +kernel
theorem dX7_isWord_28 : decode cX7_isWord 28 = .ok (.iconst 0, 1) := by decide +kernel
theorem dX7_isWord_29 : decode cX7_isWord 29 = .ok (.ireturn, 1) := by decide +kernel
theorem dX7_isSign_0 : decode cX7_isSign 0 = .ok (.aload_n 0, 1) := by decide +kernel
theorem dX7_isSign_1 : decode cX7_isSign 1 = .ok (.getfield 118, 3) := by decide +kernel
theorem dX7_isSign_4 : decode cX7_isSign 4 = .ok (.ifCond .ne 23, 3) := by decide +kernel
theorem dX7_isSign_7 : decode cX7_isSign 7 = .ok (.aload_n 0, 1) := by decide +kernel
theorem dX7_isSign_8 : decode cX7_isSign 8 = .ok (.getfield 108, 3) := by decide +kernel
theorem dX7_isSign_11 : decode cX7_isSign 11 = .ok (.iconst 3, 1) := by decide +kernel
theorem dX7_isSign_12 : decode cX7_isSign 12 = .ok (.if_icmp .ne 15, 3) := by decide +kernel
theorem dX7_isSign_15 : decode cX7_isSign 15 = .ok (.aload_n 0, 1) := by decide +kernel
theorem dX7_isSign_16 : decode cX7_isSign 16 = .ok (.getfield 105, 3) := by decide +kernel
theorem dX7_isSign_19 : decode cX7_isSign 19 = .ok (.iload_n 1, 1) := by decide +kernel
theorem dX7_isSign_20 : decode cX7_isSign 20 = .ok (.if_icmp .ne 7, 3) := by decide +kernel
theorem dX7_isSign_23 : decode cX7_isSign 23 = .ok (.iconst 1, 1) := by decide +kernel
theorem dX7_isSign_24 : decode cX7_isSign 24 = .ok (.goto 4, 3) := by decide +kernel
theorem dX7_isSign_27 : decode cX7_isSign 27 = .ok (.iconst 0, 1) := by decide +kernel
theorem dX7_isSign_28 : decode cX7_isSign 28 = .ok (.ireturn, 1) := by decide +kernel
theorem dX7_mustSign_0 : decode cX7_mustSign 0 = .ok (.aload_n 0, 1) := by decide +kernel
theorem dX7_mustSign_1 : decode cX7_mustSign 1 = .ok (.invokevirtual 121, 3) := by decide +kernel
theorem dX7_mustSign_4 : decode cX7_mustSign 4 = .ok (.ifCond .eq 16, 3) := by decide +kernel
theorem dX7_mustSign_7 : decode cX7_mustSign 7 = .ok (.aload_n 0, 1) := by decide +kernel
theorem dX7_mustSign_8 : decode cX7_mustSign 8 = .ok (.iload_n 1, 1) := by decide +kernel
theorem dX7_mustSign_9 : decode cX7_mustSign 9 = .ok (.invokevirtual 125, 3) := by decide +kernel
theorem dX7_mustSign_12 : decode cX7_mustSign 12 = .ok (.ifCond .ne 8, 3) := by decide +kernel
theorem dX7_mustSign_15 : decode cX7_mustSign 15 = .ok (.aload_n 0, 1) := by decide +kernel
theorem dX7_mustSign_16 : decode cX7_mustSign 16 = .ok (.iconst 1, 1) := by decide +kernel
theorem dX7_mustSign_17 : decode cX7_mustSign 17 = .ok (.invokevirtual 128, 3) := by decide +kernel
theorem dX7_mustSign_20 : decode cX7_mustSign 20 = .ok (.aload_n 0, 1) := by decide +kernel
theorem dX7_mustSign_21 : decode cX7_mustSign 21 = .ok (.invokevirtual 121, 3) := by decide +kernel
theorem dX7_mustSign_24 : decode cX7_mustSign 24 = .ok (.ifCond .eq 7, 3) := by decide +kernel
theorem dX7_mustSign_27 : decode cX7_mustSign 27 = .ok (.aload_n 0, 1) := by decide +kernel
theorem dX7_mustSign_28 : decode cX7_mustSign 28 = .ok (.invokevirtual 131, 3) := by decide +kernel
theorem dX7_mustSign_31 : decode cX7_mustSign 31 = .ok (.return_, 1) := by decide +kernel
theorem dX7_mustWord_0 : decode cX7_mustWord 0 = .ok (.aload_n 0, 1) := by decide +kernel
theorem dX7_mustWord_1 : decode cX7_mustWord 1 = .ok (.invokevirtual 121, 3) := by decide +kernel
theorem dX7_mustWord_4 : decode cX7_mustWord 4 = .ok (.ifCond .eq 16, 3) := by decide +kernel
theorem dX7_mustWord_7 : decode cX7_mustWord 7 = .ok (.aload_n 0, 1) := by decide +kernel
theorem dX7_mustWord_8 : decode cX7_mustWord 8 = .ok (.lload_n 1, 1) := by decide +kernel
theorem dX7_mustWord_9 : decode cX7_mustWord 9 = .ok (.invokevirtual 134, 3) := by decide +kernel
theorem dX7_mustWord_12 : decode cX7_mustWord 12 = .ok (.ifCond .ne 8, 3) := by decide +kernel
theorem dX7_mustWord_15 : decode cX7_mustWord 15 = .ok (.aload_n 0, 1) := by decide +kernel
theorem dX7_mustWord_16 : decode cX7_mustWord 16 = .ok (.iconst 1, 1) := by decide +kernel
theorem dX7_mustWord_17 : decode cX7_mustWord 17 = .ok (.invokevirtual 128, 3) := by decide +kernel
theorem dX7_mustWord_20 : decode cX7_mustWord 20 = .ok (.aload_n 0, 1) := by decide +kernel
theorem dX7_mustWord_21 : decode cX7_mustWord 21 = .ok (.invokevirtual 121, 3) := by decide +kernel
theorem dX7_mustWord_24 : decode cX7_mustWord 24 = .ok (.ifCond .eq 7, 3) := by decide +kernel
theorem dX7_mustWord_27 : decode cX7_mustWord 27 = .ok (.aload_n 0, 1) := by decide +kernel
theorem dX7_mustWord_28 : decode cX7_mustWord 28 = .ok (.invokevirtual 131, 3) := by decide +kernel
theorem dX7_mustWord_31 : decode cX7_mustWord 31 = .ok (.return_, 1) := by decide +kernel
theorem dX7_looks_0 : decode cX7_looks 0 = .ok (.aload_n 0, 1) := by decide +kernel
theorem dX7_looks_1 : decode cX7_looks 1 = .ok (.invokevirtual 121, 3) := by decide +kernel
theorem dX7_looks_4 : decode cX7_looks 4 = .ok (.ifCond .eq 16, 3) := by decide +kernel
theorem dX7_looks_7 : decode cX7_looks 7 = .ok (.aload_n 0, 1) := by decide +kernel
theorem dX7_looks_8 : decode cX7_looks 8 = .ok (.getfield 108, 3) := by decide +kernel
theorem dX7_looks_11 : decode cX7_looks 11 = .ok (.iconst 2, 1) := by decide +kernel
theorem dX7_looks_12 : decode cX7_looks 12 = .ok (.if_icmp .eq 8, 3) := by decide +kernel
theorem dX7_looks_15 : decode cX7_looks 15 = .ok (.aload_n 0, 1) := by decide +kernel
theorem dX7_looks_16 : decode cX7_looks 16 = .ok (.iconst 1, 1) := by decide +kernel
theorem dX7_looks_17 : decode cX7_looks 17 = .ok (.invokevirtual 128, 3) := by decide +kernel
theorem dX7_looks_20 : decode cX7_looks 20 = .ok (.aload_n 0, 1) := by decide +kernel
theorem dX7_looks_21 : decode cX7_looks 21 = .ok (.invokevirtual 121, 3) := by decide +kernel
theorem dX7_looks_24 : decode cX7_looks 24 = .ok (.ifCond .eq 23, 3) := by decide +kernel
theorem dX7_looks_27 : decode cX7_looks 27 = .ok (.aload_n 0, 1) := by decide +kernel
theorem dX7_looks_28 : decode cX7_looks 28 = .ok (.getfield 105, 3) := by decide +kernel
theorem dX7_looks_31 : decode cX7_looks 31 = .ok (.i2l, 1) := by decide +kernel
theorem dX7_looks_32 : decode cX7_looks 32 = .ok (.iload_n 1, 1) := by decide +kernel
theorem dX7_looks_33 : decode cX7_looks 33 = .ok (.i2l, 1) := by decide +kernel
theorem dX7_looks_34 : decode cX7_looks 34 = .ok (.iload_n 2, 1) := by decide +kernel
theorem dX7_looks_35 : decode cX7_looks 35 = .ok (.i2l, 1) := by decide +kernel
theorem dX7_looks_36 : decode cX7_looks 36 = .ok (.invokestatic 84, 3) := by decide +kernel
theorem dX7_looks_39 : decode cX7_looks 39 = .ok (.ifCond .ne 8, 3) := by decide +kernel
theorem dX7_looks_42 : decode cX7_looks 42 = .ok (.aload_n 0, 1) := by decide +kernel
theorem dX7_looks_43 : decode cX7_looks 43 = .ok (.iconst 2, 1) := by decide +kernel
theorem dX7_looks_44 : decode cX7_looks 44 = .ok (.invokevirtual 128, 3) := by decide +kernel
theorem dX7_looks_47 : decode cX7_looks 47 = .ok (.aload_n 0, 1) := by decide +kernel
theorem dX7_looks_48 : decode cX7_looks 48 = .ok (.getfield 105, 3) := by decide +kernel
theorem dX7_looks_51 : decode cX7_looks 51 = .ok (.ireturn, 1) := by decide +kernel
theorem dX7_number_0 : decode cX7_number 0 = .ok (.aload_n 0, 1) := by decide +kernel
theorem dX7_number_1 : decode cX7_number 1 = .ok (.iload_n 1, 1) := by decide +kernel
theorem dX7_number_2 : decode cX7_number 2 = .ok (.iload_n 2, 1) := by decide +kernel
theorem dX7_number_3 : decode cX7_number 3 = .ok (.invokevirtual 138, 3) := by decide +kernel
theorem dX7_number_6 : decode cX7_number 6 = .ok (.istore_n 3, 1) := by decide +kernel
theorem dX7_number_7 : decode cX7_number 7 = .ok (.aload_n 0, 1) := by decide +kernel
theorem dX7_number_8 : decode cX7_number 8 = .ok (.invokevirtual 121, 3) := by decide +kernel
theorem dX7_number_11 : decode cX7_number 11 = .ok (.ifCond .eq 7, 3) := by decide +kernel
theorem dX7_number_14 : decode cX7_number 14 = .ok (.aload_n 0, 1) := by decide +kernel
theorem dX7_number_15 : decode cX7_number 15 = .ok (.invokevirtual 131, 3) := by decide +kernel
theorem dX7_number_18 : decode cX7_number 18 = .ok (.iload_n 3, 1) := by decide +kernel
theorem dX7_number_19 : decode cX7_number 19 = .ok (.ireturn, 1) := by decide +kernel
theorem dX7_beginsText_0 : decode cX7_beginsText 0 = .ok (.aload_n 0, 1) := by decide +kernel
theorem dX7_beginsText_1 : decode cX7_beginsText 1 = .ok (.aload_n 0, 1) := by decide +kernel
theorem dX7_beginsText_2 : decode cX7_beginsText 2 = .ok (.getfield 73, 3) := by decide +kernel
theorem dX7_beginsText_5 : decode cX7_beginsText 5 = .ok (.putfield 91, 3) := by decide +kernel
theorem dX7_beginsText_8 : decode cX7_beginsText 8 = .ok (.aload_n 0, 1) := by decide +kernel
theorem dX7_beginsText_9 : decode cX7_beginsText 9 = .ok (.iconst 0, 1) := by decide +kernel
theorem dX7_beginsText_10 : decode cX7_beginsText 10 = .ok (.putfield 73, 3) := by decide +kernel
theorem dX7_beginsText_13 : decode cX7_beginsText 13 = .ok (.aload_n 0, 1) := by decide +kernel
theorem dX7_beginsText_14 : decode cX7_beginsText 14 = .ok (.iconst 0, 1) := by decide +kernel
theorem dX7_beginsText_15 : decode cX7_beginsText 15 = .ok (.putfield 88, 3) := by decide +kernel
theorem dX7_beginsText_18 : decode cX7_beginsText 18 = .ok (.aload_n 0, 1) := by decide +kernel
theorem dX7_beginsText_19 : decode cX7_beginsText 19 = .ok (.iconst 0, 1) := by decide +kernel
theorem dX7_beginsText_20 : decode cX7_beginsText 20 = .ok (.putfield 118, 3) := by decide +kernel
theorem dX7_beginsText_23 : decode cX7_beginsText 23 = .ok (.aload_n 0, 1) := by decide +kernel
theorem dX7_beginsText_24 : decode cX7_beginsText 24 = .ok (.iconst (-1), 1) := by decide +kernel
theorem dX7_beginsText_25 : decode cX7_beginsText 25 = .ok (.putfield 13, 3) := by decide +kernel
theorem dX7_beginsText_28 : decode cX7_beginsText 28 = .ok (.aload_n 0, 1) := by decide +kernel
theorem dX7_beginsText_29 : decode cX7_beginsText 29 = .ok (.invokevirtual 131, 3) := by decide +kernel
theorem dX7_beginsText_32 : decode cX7_beginsText 32 = .ok (.return_, 1) := by decide +kernel
theorem dX7_endsText_0 : decode cX7_endsText 0 = .ok (.aload_n 0, 1) := by decide +kernel
theorem dX7_endsText_1 : decode cX7_endsText 1 = .ok (.aload_n 0, 1) := by decide +kernel
theorem dX7_endsText_2 : decode cX7_endsText 2 = .ok (.getfield 118, 3) := by decide +kernel
theorem dX7_endsText_5 : decode cX7_endsText 5 = .ok (.putfield 142, 3) := by decide +kernel
theorem dX7_endsText_8 : decode cX7_endsText 8 = .ok (.aload_n 0, 1) := by decide +kernel
theorem dX7_endsText_9 : decode cX7_endsText 9 = .ok (.aload_n 0, 1) := by decide +kernel
theorem dX7_endsText_10 : decode cX7_endsText 10 = .ok (.getfield 13, 3) := by decide +kernel
theorem dX7_endsText_13 : decode cX7_endsText 13 = .ok (.putfield 17, 3) := by decide +kernel
theorem dX7_endsText_16 : decode cX7_endsText 16 = .ok (.aload_n 0, 1) := by decide +kernel
theorem dX7_endsText_17 : decode cX7_endsText 17 = .ok (.aload_n 0, 1) := by decide +kernel
theorem dX7_endsText_18 : decode cX7_endsText 18 = .ok (.getfield 118, 3) := by decide +kernel
theorem dX7_endsText_21 : decode cX7_endsText 21 = .ok (.ifCond .ne 7, 3) := by decide +kernel
theorem dX7_endsText_24 : decode cX7_endsText 24 = .ok (.iconst 1, 1) := by decide +kernel
theorem dX7_endsText_25 : decode cX7_endsText 25 = .ok (.goto 4, 3) := by decide +kernel
theorem dX7_endsText_28 : decode cX7_endsText 28 = .ok (.iconst 0, 1) := by decide +kernel
theorem dX7_endsText_29 : decode cX7_endsText 29 = .ok (.invokevirtual 76, 3) := by decide +kernel
theorem dX7_endsText_32 : decode cX7_endsText 32 = .ok (.ireturn, 1) := by decide +kernel
theorem dX7_errorCode_0 : decode cX7_errorCode 0 = .ok (.aload_n 0, 1) := by decide +kernel
theorem dX7_errorCode_1 : decode cX7_errorCode 1 = .ok (.iconst 0, 1) := by decide +kernel
theorem dX7_errorCode_2 : decode cX7_errorCode 2 = .ok (.putfield 66, 3) := by decide +kernel
theorem dX7_errorCode_5 : decode cX7_errorCode 5 = .ok (.aload_n 0, 1) := by decide +kernel
theorem dX7_errorCode_6 : decode cX7_errorCode 6 = .ok (.getfield 142, 3) := by decide +kernel
theorem dX7_errorCode_9 : decode cX7_errorCode 9 = .ok (.ireturn, 1) := by decide +kernel
theorem dX7_errorPosition_0 : decode cX7_errorPosition 0 = .ok (.aload_n 0, 1) := by decide +kernel
theorem dX7_errorPosition_1 : decode cX7_errorPosition 1 = .ok (.iconst 0, 1) := by decide +kernel
theorem dX7_errorPosition_2 : decode cX7_errorPosition 2 = .ok (.putfield 66, 3) := by decide +kernel
theorem dX7_errorPosition_5 : decode cX7_errorPosition 5 = .ok (.aload_n 0, 1) := by decide +kernel
theorem dX7_errorPosition_6 : decode cX7_errorPosition 6 = .ok (.getfield 17, 3) := by decide +kernel
theorem dX7_errorPosition_9 : decode cX7_errorPosition 9 = .ok (.ireturn, 1) := by decide +kernel
theorem dX7_copiesRow_0 : decode cX7_copiesRow 0 = .ok (.iconst 0, 1) := by decide +kernel
theorem dX7_copiesRow_1 : decode cX7_copiesRow 1 = .ok (.istore 4, 2) := by decide +kernel
theorem dX7_copiesRow_3 : decode cX7_copiesRow 3 = .ok (.iload 4, 2) := by decide +kernel
theorem dX7_copiesRow_5 : decode cX7_copiesRow 5 = .ok (.sipush 365, 3) := by decide +kernel
theorem dX7_copiesRow_8 : decode cX7_copiesRow 8 = .ok (.if_icmp .ge 21, 3) := by decide +kernel
theorem dX7_copiesRow_11 : decode cX7_copiesRow 11 = .ok (.aload_n 2, 1) := by decide +kernel
theorem dX7_copiesRow_12 : decode cX7_copiesRow 12 = .ok (.iload_n 3, 1) := by decide +kernel
theorem dX7_copiesRow_13 : decode cX7_copiesRow 13 = .ok (.iload 4, 2) := by decide +kernel
theorem dX7_copiesRow_15 : decode cX7_copiesRow 15 = .ok (.iadd, 1) := by decide +kernel
theorem dX7_copiesRow_16 : decode cX7_copiesRow 16 = .ok (.aload_n 0, 1) := by decide +kernel
theorem dX7_copiesRow_17 : decode cX7_copiesRow 17 = .ok (.iload_n 1, 1) := by decide +kernel
theorem dX7_copiesRow_18 : decode cX7_copiesRow 18 = .ok (.iload 4, 2) := by decide +kernel
theorem dX7_copiesRow_20 : decode cX7_copiesRow 20 = .ok (.iadd, 1) := by decide +kernel
theorem dX7_copiesRow_21 : decode cX7_copiesRow 21 = .ok (.iaload, 1) := by decide +kernel
theorem dX7_copiesRow_22 : decode cX7_copiesRow 22 = .ok (.iastore, 1) := by decide +kernel
theorem dX7_copiesRow_23 : decode cX7_copiesRow 23 = .ok (.iinc 4 1, 3) := by decide +kernel
theorem dX7_copiesRow_26 : decode cX7_copiesRow 26 = .ok (.goto (-23), 3) := by decide +kernel
theorem dX7_copiesRow_29 : decode cX7_copiesRow 29 = .ok (.return_, 1) := by decide +kernel
theorem dX7_copiesNames_0 : decode cX7_copiesNames 0 = .ok (.iconst 0, 1) := by decide +kernel
theorem dX7_copiesNames_1 : decode cX7_copiesNames 1 = .ok (.istore_n 2, 1) := by decide +kernel
theorem dX7_copiesNames_2 : decode cX7_copiesNames 2 = .ok (.iload_n 2, 1) := by decide +kernel
theorem dX7_copiesNames_3 : decode cX7_copiesNames 3 = .ok (.bipush 8, 2) := by decide +kernel
theorem dX7_copiesNames_5 : decode cX7_copiesNames 5 = .ok (.if_icmp .ge 15, 3) := by decide +kernel
theorem dX7_copiesNames_8 : decode cX7_copiesNames 8 = .ok (.aload_n 1, 1) := by decide +kernel
theorem dX7_copiesNames_9 : decode cX7_copiesNames 9 = .ok (.iload_n 2, 1) := by decide +kernel
theorem dX7_copiesNames_10 : decode cX7_copiesNames 10 = .ok (.aload_n 0, 1) := by decide +kernel
theorem dX7_copiesNames_11 : decode cX7_copiesNames 11 = .ok (.iload_n 2, 1) := by decide +kernel
theorem dX7_copiesNames_12 : decode cX7_copiesNames 12 = .ok (.laload, 1) := by decide +kernel
theorem dX7_copiesNames_13 : decode cX7_copiesNames 13 = .ok (.lastore, 1) := by decide +kernel
theorem dX7_copiesNames_14 : decode cX7_copiesNames 14 = .ok (.iinc 2 1, 3) := by decide +kernel
theorem dX7_copiesNames_17 : decode cX7_copiesNames 17 = .ok (.goto (-15), 3) := by decide +kernel
theorem dX7_copiesNames_20 : decode cX7_copiesNames 20 = .ok (.return_, 1) := by decide +kernel
theorem dX7_cellOf_0 : decode cX7_cellOf 0 = .ok (.bipush 21, 2) := by decide +kernel
theorem dX7_cellOf_2 : decode cX7_cellOf 2 = .ok (.bipush 43, 2) := by decide +kernel
theorem dX7_cellOf_4 : decode cX7_cellOf 4 = .ok (.iload_n 0, 1) := by decide +kernel
theorem dX7_cellOf_5 : decode cX7_cellOf 5 = .ok (.imul, 1) := by decide +kernel
theorem dX7_cellOf_6 : decode cX7_cellOf 6 = .ok (.iadd, 1) := by decide +kernel
theorem dX7_cellOf_7 : decode cX7_cellOf 7 = .ok (.iload_n 1, 1) := by decide +kernel
theorem dX7_cellOf_8 : decode cX7_cellOf 8 = .ok (.iadd, 1) := by decide +kernel
theorem dX7_cellOf_9 : decode cX7_cellOf 9 = .ok (.ireturn, 1) := by decide +kernel
theorem dX7_of_0 : decode cX7_of 0 = .ok (.aload_n 0, 1) := by decide +kernel
theorem dX7_of_1 : decode cX7_of 1 = .ok (.getfield 20, 3) := by decide +kernel
theorem dX7_of_4 : decode cX7_of 4 = .ok (.iload_n 1, 1) := by decide +kernel
theorem dX7_of_5 : decode cX7_of 5 = .ok (.iload_n 2, 1) := by decide +kernel
theorem dX7_of_6 : decode cX7_of 6 = .ok (.invokestatic 145, 3) := by decide +kernel
theorem dX7_of_9 : decode cX7_of 9 = .ok (.iaload, 1) := by decide +kernel
theorem dX7_of_10 : decode cX7_of 10 = .ok (.ireturn, 1) := by decide +kernel
theorem dX7_sets_0 : decode cX7_sets 0 = .ok (.aload_n 0, 1) := by decide +kernel
theorem dX7_sets_1 : decode cX7_sets 1 = .ok (.getfield 20, 3) := by decide +kernel
theorem dX7_sets_4 : decode cX7_sets 4 = .ok (.iload_n 1, 1) := by decide +kernel
theorem dX7_sets_5 : decode cX7_sets 5 = .ok (.iload_n 2, 1) := by decide +kernel
theorem dX7_sets_6 : decode cX7_sets 6 = .ok (.invokestatic 145, 3) := by decide +kernel
theorem dX7_sets_9 : decode cX7_sets 9 = .ok (.iload_n 3, 1) := by decide +kernel
theorem dX7_sets_10 : decode cX7_sets 10 = .ok (.iastore, 1) := by decide +kernel
theorem dX7_sets_11 : decode cX7_sets 11 = .ok (.return_, 1) := by decide +kernel
theorem dX7_adds_0 : decode cX7_adds 0 = .ok (.aload_n 0, 1) := by decide +kernel
theorem dX7_adds_1 : decode cX7_adds 1 = .ok (.getfield 20, 3) := by decide +kernel
theorem dX7_adds_4 : decode cX7_adds 4 = .ok (.iload_n 1, 1) := by decide +kernel
theorem dX7_adds_5 : decode cX7_adds 5 = .ok (.iload_n 2, 1) := by decide +kernel
theorem dX7_adds_6 : decode cX7_adds 6 = .ok (.invokestatic 145, 3) := by decide +kernel
theorem dX7_adds_9 : decode cX7_adds 9 = .ok (.dup2, 1) := by decide +kernel
theorem dX7_adds_10 : decode cX7_adds 10 = .ok (.iaload, 1) := by decide +kernel
theorem dX7_adds_11 : decode cX7_adds 11 = .ok (.iload_n 3, 1) := by decide +kernel
theorem dX7_adds_12 : decode cX7_adds 12 = .ok (.iadd, 1) := by decide +kernel
theorem dX7_adds_13 : decode cX7_adds 13 = .ok (.iastore, 1) := by decide +kernel
theorem dX7_adds_14 : decode cX7_adds 14 = .ok (.return_, 1) := by decide +kernel
theorem dX7_clears_0 : decode cX7_clears 0 = .ok (.iconst 0, 1) := by decide +kernel
theorem dX7_clears_1 : decode cX7_clears 1 = .ok (.istore_n 1, 1) := by decide +kernel
theorem dX7_clears_2 : decode cX7_clears 2 = .ok (.iload_n 1, 1) := by decide +kernel
theorem dX7_clears_3 : decode cX7_clears 3 = .ok (.sipush 365, 3) := by decide +kernel
theorem dX7_clears_6 : decode cX7_clears 6 = .ok (.if_icmp .ge 16, 3) := by decide +kernel
theorem dX7_clears_9 : decode cX7_clears 9 = .ok (.aload_n 0, 1) := by decide +kernel
theorem dX7_clears_10 : decode cX7_clears 10 = .ok (.getfield 20, 3) := by decide +kernel
theorem dX7_clears_13 : decode cX7_clears 13 = .ok (.iload_n 1, 1) := by decide +kernel
theorem dX7_clears_14 : decode cX7_clears 14 = .ok (.iconst 0, 1) := by decide +kernel
theorem dX7_clears_15 : decode cX7_clears 15 = .ok (.iastore, 1) := by decide +kernel
theorem dX7_clears_16 : decode cX7_clears 16 = .ok (.iinc 1 1, 3) := by decide +kernel
theorem dX7_clears_19 : decode cX7_clears 19 = .ok (.goto (-17), 3) := by decide +kernel
theorem dX7_clears_22 : decode cX7_clears 22 = .ok (.iconst 0, 1) := by decide +kernel
theorem dX7_clears_23 : decode cX7_clears 23 = .ok (.istore_n 1, 1) := by decide +kernel
theorem dX7_clears_24 : decode cX7_clears 24 = .ok (.iload_n 1, 1) := by decide +kernel
theorem dX7_clears_25 : decode cX7_clears 25 = .ok (.bipush 8, 2) := by decide +kernel
theorem dX7_clears_27 : decode cX7_clears 27 = .ok (.if_icmp .ge 50, 3) := by decide +kernel
theorem dX7_clears_30 : decode cX7_clears 30 = .ok (.aload_n 0, 1) := by decide +kernel
theorem dX7_clears_31 : decode cX7_clears 31 = .ok (.getfield 35, 3) := by decide +kernel
theorem dX7_clears_34 : decode cX7_clears 34 = .ok (.iload_n 1, 1) := by decide +kernel
theorem dX7_clears_35 : decode cX7_clears 35 = .ok (.lconst 0, 1) := by decide +kernel
theorem dX7_clears_36 : decode cX7_clears 36 = .ok (.lastore, 1) := by decide +kernel
theorem dX7_clears_37 : decode cX7_clears 37 = .ok (.iconst 0, 1) := by decide +kernel
theorem dX7_clears_38 : decode cX7_clears 38 = .ok (.istore_n 2, 1) := by decide +kernel
theorem dX7_clears_39 : decode cX7_clears 39 = .ok (.iload_n 2, 1) := by decide +kernel
theorem dX7_clears_40 : decode cX7_clears 40 = .ok (.bipush 8, 2) := by decide +kernel
theorem dX7_clears_42 : decode cX7_clears 42 = .ok (.if_icmp .ge 29, 3) := by decide +kernel
theorem dX7_clears_45 : decode cX7_clears 45 = .ok (.aload_n 0, 1) := by decide +kernel
theorem dX7_clears_46 : decode cX7_clears 46 = .ok (.iload_n 1, 1) := by decide +kernel
theorem dX7_clears_47 : decode cX7_clears 47 = .ok (.bipush 19, 2) := by decide +kernel
theorem dX7_clears_49 : decode cX7_clears 49 = .ok (.iload_n 2, 1) := by decide +kernel
theorem dX7_clears_50 : decode cX7_clears 50 = .ok (.iadd, 1) := by decide +kernel
theorem dX7_clears_51 : decode cX7_clears 51 = .ok (.iconst (-1), 1) := by decide +kernel
theorem dX7_clears_52 : decode cX7_clears 52 = .ok (.invokevirtual 148, 3) := by decide +kernel
theorem dX7_clears_55 : decode cX7_clears 55 = .ok (.aload_n 0, 1) := by decide +kernel
theorem dX7_clears_56 : decode cX7_clears 56 = .ok (.iload_n 1, 1) := by decide +kernel
theorem dX7_clears_57 : decode cX7_clears 57 = .ok (.bipush 35, 2) := by decide +kernel
theorem dX7_clears_59 : decode cX7_clears 59 = .ok (.iload_n 2, 1) := by decide +kernel
theorem dX7_clears_60 : decode cX7_clears 60 = .ok (.iadd, 1) := by decide +kernel
theorem dX7_clears_61 : decode cX7_clears 61 = .ok (.iconst 5, 1) := by decide +kernel
theorem dX7_clears_62 : decode cX7_clears 62 = .ok (.invokevirtual 148, 3) := by decide +kernel
theorem dX7_clears_65 : decode cX7_clears 65 = .ok (.iinc 2 1, 3) := by decide +kernel
theorem dX7_clears_68 : decode cX7_clears 68 = .ok (.goto (-29), 3) := by decide +kernel
theorem dX7_clears_71 : decode cX7_clears 71 = .ok (.iinc 1 1, 3) := by decide +kernel
theorem dX7_clears_74 : decode cX7_clears 74 = .ok (.goto (-50), 3) := by decide +kernel
theorem dX7_clears_77 : decode cX7_clears 77 = .ok (.aload_n 0, 1) := by decide +kernel
theorem dX7_clears_78 : decode cX7_clears 78 = .ok (.getfield 20, 3) := by decide +kernel
theorem dX7_clears_81 : decode cX7_clears 81 = .ok (.bipush 7, 2) := by decide +kernel
theorem dX7_clears_83 : decode cX7_clears 83 = .ok (.iconst 1, 1) := by decide +kernel
theorem dX7_clears_84 : decode cX7_clears 84 = .ok (.iastore, 1) := by decide +kernel
theorem dX7_clears_85 : decode cX7_clears 85 = .ok (.aload_n 0, 1) := by decide +kernel
theorem dX7_clears_86 : decode cX7_clears 86 = .ok (.getfield 20, 3) := by decide +kernel
theorem dX7_clears_89 : decode cX7_clears 89 = .ok (.iconst 2, 1) := by decide +kernel
theorem dX7_clears_90 : decode cX7_clears 90 = .ok (.iconst 3, 1) := by decide +kernel
theorem dX7_clears_91 : decode cX7_clears 91 = .ok (.iastore, 1) := by decide +kernel
theorem dX7_clears_92 : decode cX7_clears 92 = .ok (.aload_n 0, 1) := by decide +kernel
theorem dX7_clears_93 : decode cX7_clears 93 = .ok (.getfield 20, 3) := by decide +kernel
theorem dX7_clears_96 : decode cX7_clears 96 = .ok (.iconst 3, 1) := by decide +kernel
theorem dX7_clears_97 : decode cX7_clears 97 = .ok (.bipush 99, 2) := by decide +kernel
theorem dX7_clears_99 : decode cX7_clears 99 = .ok (.iastore, 1) := by decide +kernel
theorem dX7_clears_100 : decode cX7_clears 100 = .ok (.aload_n 0, 1) := by decide +kernel
theorem dX7_clears_101 : decode cX7_clears 101 = .ok (.getfield 20, 3) := by decide +kernel
theorem dX7_clears_104 : decode cX7_clears 104 = .ok (.bipush 8, 2) := by decide +kernel
theorem dX7_clears_106 : decode cX7_clears 106 = .ok (.iconst 1, 1) := by decide +kernel
theorem dX7_clears_107 : decode cX7_clears 107 = .ok (.iastore, 1) := by decide +kernel
theorem dX7_clears_108 : decode cX7_clears 108 = .ok (.aload_n 0, 1) := by decide +kernel
theorem dX7_clears_109 : decode cX7_clears 109 = .ok (.getfield 20, 3) := by decide +kernel
theorem dX7_clears_112 : decode cX7_clears 112 = .ok (.bipush 9, 2) := by decide +kernel
theorem dX7_clears_114 : decode cX7_clears 114 = .ok (.iconst 5, 1) := by decide +kernel
theorem dX7_clears_115 : decode cX7_clears 115 = .ok (.iastore, 1) := by decide +kernel
theorem dX7_clears_116 : decode cX7_clears 116 = .ok (.aload_n 0, 1) := by decide +kernel
theorem dX7_clears_117 : decode cX7_clears 117 = .ok (.getfield 20, 3) := by decide +kernel
theorem dX7_clears_120 : decode cX7_clears 120 = .ok (.bipush 10, 2) := by decide +kernel
theorem dX7_clears_122 : decode cX7_clears 122 = .ok (.iconst 3, 1) := by decide +kernel
theorem dX7_clears_123 : decode cX7_clears 123 = .ok (.iastore, 1) := by decide +kernel
theorem dX7_clears_124 : decode cX7_clears 124 = .ok (.aload_n 0, 1) := by decide +kernel
theorem dX7_clears_125 : decode cX7_clears 125 = .ok (.getfield 20, 3) := by decide +kernel
theorem dX7_clears_128 : decode cX7_clears 128 = .ok (.bipush 11, 2) := by decide +kernel
theorem dX7_clears_130 : decode cX7_clears 130 = .ok (.bipush 9, 2) := by decide +kernel
theorem dX7_clears_132 : decode cX7_clears 132 = .ok (.iastore, 1) := by decide +kernel
theorem dX7_clears_133 : decode cX7_clears 133 = .ok (.return_, 1) := by decide +kernel
theorem dX7_laysAside_0 : decode cX7_laysAside 0 = .ok (.aload_n 0, 1) := by decide +kernel
theorem dX7_laysAside_1 : decode cX7_laysAside 1 = .ok (.getfield 20, 3) := by decide +kernel
theorem dX7_laysAside_4 : decode cX7_laysAside 4 = .ok (.iconst 0, 1) := by decide +kernel
theorem dX7_laysAside_5 : decode cX7_laysAside 5 = .ok (.aload_n 0, 1) := by decide +kernel
theorem dX7_laysAside_6 : decode cX7_laysAside 6 = .ok (.getfield 26, 3) := by decide +kernel
theorem dX7_laysAside_9 : decode cX7_laysAside 9 = .ok (.iconst 0, 1) := by decide +kernel
theorem dX7_laysAside_10 : decode cX7_laysAside 10 = .ok (.invokestatic 152, 3) := by decide +kernel
theorem dX7_laysAside_13 : decode cX7_laysAside 13 = .ok (.return_, 1) := by decide +kernel
theorem dX7_keeps_0 : decode cX7_keeps 0 = .ok (.aload_n 0, 1) := by decide +kernel
theorem dX7_keeps_1 : decode cX7_keeps 1 = .ok (.getfield 156, 3) := by decide +kernel
theorem dX7_keeps_4 : decode cX7_keeps 4 = .ok (.bipush 6, 2) := by decide +kernel
theorem dX7_keeps_6 : decode cX7_keeps 6 = .ok (.if_icmp .ne 49, 3) := by decide +kernel
theorem dX7_keeps_9 : decode cX7_keeps 9 = .ok (.aload_n 0, 1) := by decide +kernel
theorem dX7_keeps_10 : decode cX7_keeps 10 = .ok (.dup, 1) := by decide +kernel
theorem dX7_keeps_11 : decode cX7_keeps 11 = .ok (.getfield 156, 3) := by decide +kernel
theorem dX7_keeps_14 : decode cX7_keeps 14 = .ok (.iconst 1, 1) := by decide +kernel
theorem dX7_keeps_15 : decode cX7_keeps 15 = .ok (.isub, 1) := by decide +kernel
theorem dX7_keeps_16 : decode cX7_keeps 16 = .ok (.putfield 156, 3) := by decide +kernel
theorem dX7_keeps_19 : decode cX7_keeps 19 = .ok (.iconst 0, 1) := by decide +kernel
theorem dX7_keeps_20 : decode cX7_keeps 20 = .ok (.istore_n 1, 1) := by decide +kernel
theorem dX7_keeps_21 : decode cX7_keeps 21 = .ok (.iload_n 1, 1) := by decide +kernel
theorem dX7_keeps_22 : decode cX7_keeps 22 = .ok (.sipush 365, 3) := by decide +kernel
theorem dX7_keeps_25 : decode cX7_keeps 25 = .ok (.aload_n 0, 1) := by decide +kernel
theorem dX7_keeps_26 : decode cX7_keeps 26 = .ok (.getfield 156, 3) := by decide +kernel
theorem dX7_keeps_29 : decode cX7_keeps 29 = .ok (.imul, 1) := by decide +kernel
theorem dX7_keeps_30 : decode cX7_keeps 30 = .ok (.if_icmp .ge 25, 3) := by decide +kernel
theorem dX7_keeps_33 : decode cX7_keeps 33 = .ok (.aload_n 0, 1) := by decide +kernel
theorem dX7_keeps_34 : decode cX7_keeps 34 = .ok (.getfield 32, 3) := by decide +kernel
theorem dX7_keeps_37 : decode cX7_keeps 37 = .ok (.iload_n 1, 1) := by decide +kernel
theorem dX7_keeps_38 : decode cX7_keeps 38 = .ok (.aload_n 0, 1) := by decide +kernel
theorem dX7_keeps_39 : decode cX7_keeps 39 = .ok (.getfield 32, 3) := by decide +kernel
theorem dX7_keeps_42 : decode cX7_keeps 42 = .ok (.iload_n 1, 1) := by decide +kernel
theorem dX7_keeps_43 : decode cX7_keeps 43 = .ok (.sipush 365, 3) := by decide +kernel
theorem dX7_keeps_46 : decode cX7_keeps 46 = .ok (.iadd, 1) := by decide +kernel
theorem dX7_keeps_47 : decode cX7_keeps 47 = .ok (.iaload, 1) := by decide +kernel
theorem dX7_keeps_48 : decode cX7_keeps 48 = .ok (.iastore, 1) := by decide +kernel
theorem dX7_keeps_49 : decode cX7_keeps 49 = .ok (.iinc 1 1, 3) := by decide +kernel
theorem dX7_keeps_52 : decode cX7_keeps 52 = .ok (.goto (-31), 3) := by decide +kernel
theorem dX7_keeps_55 : decode cX7_keeps 55 = .ok (.aload_n 0, 1) := by decide +kernel
theorem dX7_keeps_56 : decode cX7_keeps 56 = .ok (.getfield 26, 3) := by decide +kernel
theorem dX7_keeps_59 : decode cX7_keeps 59 = .ok (.iconst 0, 1) := by decide +kernel
theorem dX7_keeps_60 : decode cX7_keeps 60 = .ok (.aload_n 0, 1) := by decide +kernel
theorem dX7_keeps_61 : decode cX7_keeps 61 = .ok (.getfield 32, 3) := by decide +kernel
theorem dX7_keeps_64 : decode cX7_keeps 64 = .ok (.sipush 365, 3) := by decide +kernel
theorem dX7_keeps_67 : decode cX7_keeps 67 = .ok (.aload_n 0, 1) := by decide +kernel
theorem dX7_keeps_68 : decode cX7_keeps 68 = .ok (.getfield 156, 3) := by decide +kernel
theorem dX7_keeps_71 : decode cX7_keeps 71 = .ok (.imul, 1) := by decide +kernel
theorem dX7_keeps_72 : decode cX7_keeps 72 = .ok (.invokestatic 152, 3) := by decide +kernel
theorem dX7_keeps_75 : decode cX7_keeps 75 = .ok (.aload_n 0, 1) := by decide +kernel
theorem dX7_keeps_76 : decode cX7_keeps 76 = .ok (.dup, 1) := by decide +kernel
theorem dX7_keeps_77 : decode cX7_keeps 77 = .ok (.getfield 156, 3) := by decide +kernel
theorem dX7_keeps_80 : decode cX7_keeps 80 = .ok (.iconst 1, 1) := by decide +kernel
theorem dX7_keeps_81 : decode cX7_keeps 81 = .ok (.iadd, 1) := by decide +kernel
theorem dX7_keeps_82 : decode cX7_keeps 82 = .ok (.putfield 156, 3) := by decide +kernel
theorem dX7_keeps_85 : decode cX7_keeps 85 = .ok (.return_, 1) := by decide +kernel
theorem dX7_kept_0 : decode cX7_kept 0 = .ok (.aload_n 0, 1) := by decide +kernel
theorem dX7_kept_1 : decode cX7_kept 1 = .ok (.invokevirtual 159, 3) := by decide +kernel
theorem dX7_kept_4 : decode cX7_kept 4 = .ok (.iload_n 1, 1) := by decide +kernel
theorem dX7_kept_5 : decode cX7_kept 5 = .ok (.ireturn, 1) := by decide +kernel
theorem dX7_undo_0 : decode cX7_undo 0 = .ok (.aload_n 0, 1) := by decide +kernel
theorem dX7_undo_1 : decode cX7_undo 1 = .ok (.iconst 0, 1) := by decide +kernel
theorem dX7_undo_2 : decode cX7_undo 2 = .ok (.putfield 66, 3) := by decide +kernel
theorem dX7_undo_5 : decode cX7_undo 5 = .ok (.aload_n 0, 1) := by decide +kernel
theorem dX7_undo_6 : decode cX7_undo 6 = .ok (.getfield 156, 3) := by decide +kernel
theorem dX7_undo_9 : decode cX7_undo 9 = .ok (.ifCond .ne 5, 3) := by decide +kernel
theorem dX7_undo_12 : decode cX7_undo 12 = .ok (.iconst (-1), 1) := by decide +kernel
theorem dX7_undo_13 : decode cX7_undo 13 = .ok (.ireturn, 1) := by decide +kernel
theorem dX7_undo_14 : decode cX7_undo 14 = .ok (.aload_n 0, 1) := by decide +kernel
theorem dX7_undo_15 : decode cX7_undo 15 = .ok (.dup, 1) := by decide +kernel
theorem dX7_undo_16 : decode cX7_undo 16 = .ok (.getfield 156, 3) := by decide +kernel
theorem dX7_undo_19 : decode cX7_undo 19 = .ok (.iconst 1, 1) := by decide +kernel
theorem dX7_undo_20 : decode cX7_undo 20 = .ok (.isub, 1) := by decide +kernel
theorem dX7_undo_21 : decode cX7_undo 21 = .ok (.putfield 156, 3) := by decide +kernel
theorem dX7_undo_24 : decode cX7_undo 24 = .ok (.aload_n 0, 1) := by decide +kernel
theorem dX7_undo_25 : decode cX7_undo 25 = .ok (.getfield 32, 3) := by decide +kernel
theorem dX7_undo_28 : decode cX7_undo 28 = .ok (.sipush 365, 3) := by decide +kernel
theorem dX7_undo_31 : decode cX7_undo 31 = .ok (.aload_n 0, 1) := by decide +kernel
theorem dX7_undo_32 : decode cX7_undo 32 = .ok (.getfield 156, 3) := by decide +kernel
theorem dX7_undo_35 : decode cX7_undo 35 = .ok (.imul, 1) := by decide +kernel
theorem dX7_undo_36 : decode cX7_undo 36 = .ok (.aload_n 0, 1) := by decide +kernel
theorem dX7_undo_37 : decode cX7_undo 37 = .ok (.getfield 20, 3) := by decide +kernel
theorem dX7_undo_40 : decode cX7_undo 40 = .ok (.iconst 0, 1) := by decide +kernel
theorem dX7_undo_41 : decode cX7_undo 41 = .ok (.invokestatic 152, 3) := by decide +kernel
theorem dX7_undo_44 : decode cX7_undo 44 = .ok (.aload_n 0, 1) := by decide +kernel
theorem dX7_undo_45 : decode cX7_undo 45 = .ok (.getfield 156, 3) := by decide +kernel
theorem dX7_undo_48 : decode cX7_undo 48 = .ok (.ireturn, 1) := by decide +kernel
theorem dX7_save_0 : decode cX7_save 0 = .ok (.aload_n 0, 1) := by decide +kernel
theorem dX7_save_1 : decode cX7_save 1 = .ok (.iconst 0, 1) := by decide +kernel
theorem dX7_save_2 : decode cX7_save 2 = .ok (.putfield 66, 3) := by decide +kernel
theorem dX7_save_5 : decode cX7_save 5 = .ok (.aload_n 0, 1) := by decide +kernel
theorem dX7_save_6 : decode cX7_save 6 = .ok (.getfield 20, 3) := by decide +kernel
theorem dX7_save_9 : decode cX7_save 9 = .ok (.iconst 0, 1) := by decide +kernel
theorem dX7_save_10 : decode cX7_save 10 = .ok (.aload_n 0, 1) := by decide +kernel
theorem dX7_save_11 : decode cX7_save 11 = .ok (.getfield 23, 3) := by decide +kernel
theorem dX7_save_14 : decode cX7_save 14 = .ok (.iconst 0, 1) := by decide +kernel
theorem dX7_save_15 : decode cX7_save 15 = .ok (.invokestatic 152, 3) := by decide +kernel
theorem dX7_save_18 : decode cX7_save 18 = .ok (.aload_n 0, 1) := by decide +kernel
theorem dX7_save_19 : decode cX7_save 19 = .ok (.getfield 35, 3) := by decide +kernel
theorem dX7_save_22 : decode cX7_save 22 = .ok (.aload_n 0, 1) := by decide +kernel
theorem dX7_save_23 : decode cX7_save 23 = .ok (.getfield 39, 3) := by decide +kernel
theorem dX7_save_26 : decode cX7_save 26 = .ok (.invokestatic 162, 3) := by decide +kernel
theorem dX7_save_29 : decode cX7_save 29 = .ok (.aload_n 0, 1) := by decide +kernel
theorem dX7_save_30 : decode cX7_save 30 = .ok (.iconst 1, 1) := by decide +kernel
theorem dX7_save_31 : decode cX7_save 31 = .ok (.putfield 166, 3) := by decide +kernel
theorem dX7_save_34 : decode cX7_save 34 = .ok (.aload_n 0, 1) := by decide +kernel
theorem dX7_save_35 : decode cX7_save 35 = .ok (.getfield 20, 3) := by decide +kernel
theorem dX7_save_38 : decode cX7_save 38 = .ok (.iconst 1, 1) := by decide +kernel
theorem dX7_save_39 : decode cX7_save 39 = .ok (.iaload, 1) := by decide +kernel
theorem dX7_save_40 : decode cX7_save 40 = .ok (.ireturn, 1) := by decide +kernel
theorem dX7_restore_0 : decode cX7_restore 0 = .ok (.aload_n 0, 1) := by decide +kernel
theorem dX7_restore_1 : decode cX7_restore 1 = .ok (.aload_n 0, 1) := by decide +kernel
theorem dX7_restore_2 : decode cX7_restore 2 = .ok (.getfield 166, 3) := by decide +kernel
theorem dX7_restore_5 : decode cX7_restore 5 = .ok (.invokevirtual 76, 3) := by decide +kernel
theorem dX7_restore_8 : decode cX7_restore 8 = .ok (.ifCond .ne 5, 3) := by decide +kernel
theorem dX7_restore_11 : decode cX7_restore 11 = .ok (.iconst 0, 1) := by decide +kernel
theorem dX7_restore_12 : decode cX7_restore 12 = .ok (.ireturn, 1) := by decide +kernel
theorem dX7_restore_13 : decode cX7_restore 13 = .ok (.aload_n 0, 1) := by decide +kernel
theorem dX7_restore_14 : decode cX7_restore 14 = .ok (.getfield 23, 3) := by decide +kernel
theorem dX7_restore_17 : decode cX7_restore 17 = .ok (.iconst 0, 1) := by decide +kernel
theorem dX7_restore_18 : decode cX7_restore 18 = .ok (.aload_n 0, 1) := by decide +kernel
theorem dX7_restore_19 : decode cX7_restore 19 = .ok (.getfield 20, 3) := by decide +kernel
theorem dX7_restore_22 : decode cX7_restore 22 = .ok (.iconst 0, 1) := by decide +kernel
theorem dX7_restore_23 : decode cX7_restore 23 = .ok (.invokestatic 152, 3) := by decide +kernel
theorem dX7_restore_26 : decode cX7_restore 26 = .ok (.aload_n 0, 1) := by decide +kernel
theorem dX7_restore_27 : decode cX7_restore 27 = .ok (.getfield 39, 3) := by decide +kernel
theorem dX7_restore_30 : decode cX7_restore 30 = .ok (.aload_n 0, 1) := by decide +kernel
theorem dX7_restore_31 : decode cX7_restore 31 = .ok (.getfield 35, 3) := by decide +kernel
theorem dX7_restore_34 : decode cX7_restore 34 = .ok (.invokestatic 162, 3) := by decide +kernel
theorem dX7_restore_37 : decode cX7_restore 37 = .ok (.aload_n 0, 1) := by decide +kernel
theorem dX7_restore_38 : decode cX7_restore 38 = .ok (.iconst 0, 1) := by decide +kernel
theorem dX7_restore_39 : decode cX7_restore 39 = .ok (.putfield 156, 3) := by decide +kernel
theorem dX7_restore_42 : decode cX7_restore 42 = .ok (.aload_n 0, 1) := by decide +kernel
theorem dX7_restore_43 : decode cX7_restore 43 = .ok (.getfield 20, 3) := by decide +kernel
theorem dX7_restore_46 : decode cX7_restore 46 = .ok (.iconst 1, 1) := by decide +kernel
theorem dX7_restore_47 : decode cX7_restore 47 = .ok (.iaload, 1) := by decide +kernel
theorem dX7_restore_48 : decode cX7_restore 48 = .ok (.ireturn, 1) := by decide +kernel
theorem dX7_mustBeWord_0 : decode cX7_mustBeWord 0 = .ok (.aload_n 0, 1) := by decide +kernel
theorem dX7_mustBeWord_1 : decode cX7_mustBeWord 1 = .ok (.invokevirtual 121, 3) := by decide +kernel
theorem dX7_mustBeWord_4 : decode cX7_mustBeWord 4 = .ok (.ifCond .eq 16, 3) := by decide +kernel
theorem dX7_mustBeWord_7 : decode cX7_mustBeWord 7 = .ok (.aload_n 0, 1) := by decide +kernel
theorem dX7_mustBeWord_8 : decode cX7_mustBeWord 8 = .ok (.getfield 108, 3) := by decide +kernel
theorem dX7_mustBeWord_11 : decode cX7_mustBeWord 11 = .ok (.iconst 1, 1) := by decide +kernel
theorem dX7_mustBeWord_12 : decode cX7_mustBeWord 12 = .ok (.if_icmp .eq 8, 3) := by decide +kernel
theorem dX7_mustBeWord_15 : decode cX7_mustBeWord 15 = .ok (.aload_n 0, 1) := by decide +kernel
theorem dX7_mustBeWord_16 : decode cX7_mustBeWord 16 = .ok (.iconst 1, 1) := by decide +kernel
theorem dX7_mustBeWord_17 : decode cX7_mustBeWord 17 = .ok (.invokevirtual 128, 3) := by decide +kernel
theorem dX7_mustBeWord_20 : decode cX7_mustBeWord 20 = .ok (.return_, 1) := by decide +kernel
theorem dX7_named_0 : decode cX7_named 0 = .ok (.iconst (-1), 1) := by decide +kernel
theorem dX7_named_1 : decode cX7_named 1 = .ok (.istore_n 1, 1) := by decide +kernel
theorem dX7_named_2 : decode cX7_named 2 = .ok (.iconst 0, 1) := by decide +kernel
theorem dX7_named_3 : decode cX7_named 3 = .ok (.istore_n 2, 1) := by decide +kernel
theorem dX7_named_4 : decode cX7_named 4 = .ok (.iload_n 2, 1) := by decide +kernel
theorem dX7_named_5 : decode cX7_named 5 = .ok (.aload_n 0, 1) := by decide +kernel
theorem dX7_named_6 : decode cX7_named 6 = .ok (.getfield 20, 3) := by decide +kernel
theorem dX7_named_9 : decode cX7_named 9 = .ok (.iconst 0, 1) := by decide +kernel
theorem dX7_named_10 : decode cX7_named 10 = .ok (.iaload, 1) := by decide +kernel
theorem dX7_named_11 : decode cX7_named 11 = .ok (.if_icmp .ge 29, 3) := by decide +kernel
theorem dX7_named_14 : decode cX7_named 14 = .ok (.aload_n 0, 1) := by decide +kernel
theorem dX7_named_15 : decode cX7_named 15 = .ok (.getfield 35, 3) := by decide +kernel
theorem dX7_named_18 : decode cX7_named 18 = .ok (.iload_n 2, 1) := by decide +kernel
theorem dX7_named_19 : decode cX7_named 19 = .ok (.laload, 1) := by decide +kernel
theorem dX7_named_20 : decode cX7_named 20 = .ok (.aload_n 0, 1) := by decide +kernel
theorem dX7_named_21 : decode cX7_named 21 = .ok (.getfield 101, 3) := by decide +kernel
theorem dX7_named_24 : decode cX7_named 24 = .ok (.lcmp, 1) := by decide +kernel
theorem dX7_named_25 : decode cX7_named 25 = .ok (.ifCond .ne 7, 3) := by decide +kernel
theorem dX7_named_28 : decode cX7_named 28 = .ok (.iload_n 2, 1) := by decide +kernel
theorem dX7_named_29 : decode cX7_named 29 = .ok (.goto 4, 3) := by decide +kernel
theorem dX7_named_32 : decode cX7_named 32 = .ok (.iload_n 1, 1) := by decide +kernel
theorem dX7_named_33 : decode cX7_named 33 = .ok (.istore_n 1, 1) := by decide +kernel
theorem dX7_named_34 : decode cX7_named 34 = .ok (.iinc 2 1, 3) := by decide +kernel
theorem dX7_named_37 : decode cX7_named 37 = .ok (.goto (-33), 3) := by decide +kernel
theorem dX7_named_40 : decode cX7_named 40 = .ok (.iload_n 1, 1) := by decide +kernel
theorem dX7_named_41 : decode cX7_named 41 = .ok (.ireturn, 1) := by decide +kernel
theorem dX7_told_0 : decode cX7_told 0 = .ok (.aload_n 0, 1) := by decide +kernel
theorem dX7_told_1 : decode cX7_told 1 = .ok (.invokevirtual 170, 3) := by decide +kernel
theorem dX7_told_4 : decode cX7_told 4 = .ok (.aload_n 0, 1) := by decide +kernel
theorem dX7_told_5 : decode cX7_told 5 = .ok (.invokevirtual 121, 3) := by decide +kernel
theorem dX7_told_8 : decode cX7_told 8 = .ok (.ifCond .eq 10, 3) := by decide +kernel
theorem dX7_told_11 : decode cX7_told 11 = .ok (.aload_n 0, 1) := by decide +kernel
theorem dX7_told_12 : decode cX7_told 12 = .ok (.invokevirtual 173, 3) := by decide +kernel
theorem dX7_told_15 : decode cX7_told 15 = .ok (.goto 4, 3) := by decide +kernel
theorem dX7_told_18 : decode cX7_told 18 = .ok (.iconst (-1), 1) := by decide +kernel
theorem dX7_told_19 : decode cX7_told 19 = .ok (.istore_n 1, 1) := by decide +kernel
theorem dX7_told_20 : decode cX7_told 20 = .ok (.aload_n 0, 1) := by decide +kernel
theorem dX7_told_21 : decode cX7_told 21 = .ok (.invokevirtual 121, 3) := by decide +kernel
theorem dX7_told_24 : decode cX7_told 24 = .ok (.ifCond .eq 13, 3) := by decide +kernel
theorem dX7_told_27 : decode cX7_told 27 = .ok (.iload_n 1, 1) := by decide +kernel
theorem dX7_told_28 : decode cX7_told 28 = .ok (.iconst (-1), 1) := by decide +kernel
theorem dX7_told_29 : decode cX7_told 29 = .ok (.if_icmp .ne 8, 3) := by decide +kernel
theorem dX7_told_32 : decode cX7_told 32 = .ok (.aload_n 0, 1) := by decide +kernel
theorem dX7_told_33 : decode cX7_told 33 = .ok (.iconst 4, 1) := by decide +kernel
theorem dX7_told_34 : decode cX7_told 34 = .ok (.invokevirtual 128, 3) := by decide +kernel
theorem dX7_told_37 : decode cX7_told 37 = .ok (.aload_n 0, 1) := by decide +kernel
theorem dX7_told_38 : decode cX7_told 38 = .ok (.invokevirtual 121, 3) := by decide +kernel
theorem dX7_told_41 : decode cX7_told 41 = .ok (.ifCond .eq 7, 3) := by decide +kernel
theorem dX7_told_44 : decode cX7_told 44 = .ok (.aload_n 0, 1) := by decide +kernel
theorem dX7_told_45 : decode cX7_told 45 = .ok (.invokevirtual 131, 3) := by decide +kernel
theorem dX7_told_48 : decode cX7_told 48 = .ok (.iload_n 1, 1) := by decide +kernel
theorem dX7_told_49 : decode cX7_told 49 = .ok (.ireturn, 1) := by decide +kernel
theorem dX7_once_0 : decode cX7_once 0 = .ok (.aload_n 0, 1) := by decide +kernel
theorem dX7_once_1 : decode cX7_once 1 = .ok (.getfield 177, 3) := by decide +kernel
theorem dX7_once_4 : decode cX7_once 4 = .ok (.iload_n 1, 1) := by decide +kernel
theorem dX7_once_5 : decode cX7_once 5 = .ok (.invokestatic 180, 3) := by decide +kernel
theorem dX7_once_8 : decode cX7_once 8 = .ok (.ifCond .eq 8, 3) := by decide +kernel
theorem dX7_once_11 : decode cX7_once 11 = .ok (.aload_n 0, 1) := by decide +kernel
theorem dX7_once_12 : decode cX7_once 12 = .ok (.iconst 3, 1) := by decide +kernel
theorem dX7_once_13 : decode cX7_once 13 = .ok (.invokevirtual 128, 3) := by decide +kernel
theorem dX7_once_16 : decode cX7_once 16 = .ok (.aload_n 0, 1) := by decide +kernel
theorem dX7_once_17 : decode cX7_once 17 = .ok (.dup, 1) := by decide +kernel
theorem dX7_once_18 : decode cX7_once 18 = .ok (.getfield 177, 3) := by decide +kernel
theorem dX7_once_21 : decode cX7_once 21 = .ok (.iconst 1, 1) := by decide +kernel
theorem dX7_once_22 : decode cX7_once 22 = .ok (.iload_n 1, 1) := by decide +kernel
theorem dX7_once_23 : decode cX7_once 23 = .ok (.ishl, 1) := by decide +kernel
theorem dX7_once_24 : decode cX7_once 24 = .ok (.ior, 1) := by decide +kernel
theorem dX7_once_25 : decode cX7_once 25 = .ok (.putfield 177, 3) := by decide +kernel
theorem dX7_once_28 : decode cX7_once 28 = .ok (.aload_n 0, 1) := by decide +kernel
theorem dX7_once_29 : decode cX7_once 29 = .ok (.invokevirtual 121, 3) := by decide +kernel
theorem dX7_once_32 : decode cX7_once 32 = .ok (.ifCond .eq 7, 3) := by decide +kernel
theorem dX7_once_35 : decode cX7_once 35 = .ok (.aload_n 0, 1) := by decide +kernel
theorem dX7_once_36 : decode cX7_once 36 = .ok (.invokevirtual 131, 3) := by decide +kernel
theorem dX7_once_39 : decode cX7_once 39 = .ok (.return_, 1) := by decide +kernel
theorem dX7_perhaps_0 : decode cX7_perhaps 0 = .ok (.aload_n 0, 1) := by decide +kernel
theorem dX7_perhaps_1 : decode cX7_perhaps 1 = .ok (.lload_n 1, 1) := by decide +kernel
theorem dX7_perhaps_2 : decode cX7_perhaps 2 = .ok (.invokevirtual 134, 3) := by decide +kernel
theorem dX7_perhaps_5 : decode cX7_perhaps 5 = .ok (.ifCond .ne 6, 3) := by decide +kernel
theorem dX7_perhaps_8 : decode cX7_perhaps 8 = .ok (.iload 5, 2) := by decide +kernel
theorem dX7_perhaps_10 : decode cX7_perhaps 10 = .ok (.ireturn, 1) := by decide +kernel
theorem dX7_perhaps_11 : decode cX7_perhaps 11 = .ok (.aload_n 0, 1) := by decide +kernel
theorem dX7_perhaps_12 : decode cX7_perhaps 12 = .ok (.invokevirtual 131, 3) := by decide +kernel
theorem dX7_perhaps_15 : decode cX7_perhaps 15 = .ok (.aload_n 0, 1) := by decide +kernel
theorem dX7_perhaps_16 : decode cX7_perhaps 16 = .ok (.iload_n 3, 1) := by decide +kernel
theorem dX7_perhaps_17 : decode cX7_perhaps 17 = .ok (.iload 4, 2) := by decide +kernel
theorem dX7_perhaps_19 : decode cX7_perhaps 19 = .ok (.invokevirtual 184, 3) := by decide +kernel
theorem dX7_perhaps_22 : decode cX7_perhaps 22 = .ok (.ireturn, 1) := by decide +kernel
theorem dX7_readsBeacon_0 : decode cX7_readsBeacon 0 = .ok (.aload_n 0, 1) := by decide +kernel
theorem dX7_readsBeacon_1 : decode cX7_readsBeacon 1 = .ok (.getfield 20, 3) := by decide +kernel
theorem dX7_readsBeacon_4 : decode cX7_readsBeacon 4 = .ok (.iconst 0, 1) := by decide +kernel
theorem dX7_readsBeacon_5 : decode cX7_readsBeacon 5 = .ok (.iaload, 1) := by decide +kernel
theorem dX7_readsBeacon_6 : decode cX7_readsBeacon 6 = .ok (.istore_n 1, 1) := by decide +kernel
theorem dX7_readsBeacon_7 : decode cX7_readsBeacon 7 = .ok (.iload_n 1, 1) := by decide +kernel
theorem dX7_readsBeacon_8 : decode cX7_readsBeacon 8 = .ok (.bipush 8, 2) := by decide +kernel
theorem dX7_readsBeacon_10 : decode cX7_readsBeacon 10 = .ok (.if_icmp .ne 8, 3) := by decide +kernel
theorem dX7_readsBeacon_13 : decode cX7_readsBeacon 13 = .ok (.aload_n 0, 1) := by decide +kernel
theorem dX7_readsBeacon_14 : decode cX7_readsBeacon 14 = .ok (.iconst 5, 1) := by decide +kernel
theorem dX7_readsBeacon_15 : decode cX7_readsBeacon 15 = .ok (.invokevirtual 128, 3) := by decide +kernel
theorem dX7_readsBeacon_18 : decode cX7_readsBeacon 18 = .ok (.aload_n 0, 1) := by decide +kernel
theorem dX7_readsBeacon_19 : decode cX7_readsBeacon 19 = .ok (.invokevirtual 121, 3) := by decide +kernel
theorem dX7_readsBeacon_22 : decode cX7_readsBeacon 22 = .ok (.ifCond .eq 7, 3) := by decide +kernel
theorem dX7_readsBeacon_25 : decode cX7_readsBeacon 25 = .ok (.aload_n 0, 1) := by decide +kernel
theorem dX7_readsBeacon_26 : decode cX7_readsBeacon 26 = .ok (.invokevirtual 131, 3) := by decide +kernel
theorem dX7_readsBeacon_29 : decode cX7_readsBeacon 29 = .ok (.aload_n 0, 1) := by decide +kernel
theorem dX7_readsBeacon_30 : decode cX7_readsBeacon 30 = .ok (.invokevirtual 170, 3) := by decide +kernel
theorem dX7_readsBeacon_33 : decode cX7_readsBeacon 33 = .ok (.aload_n 0, 1) := by decide +kernel
theorem dX7_readsBeacon_34 : decode cX7_readsBeacon 34 = .ok (.invokevirtual 121, 3) := by decide +kernel
theorem dX7_readsBeacon_37 : decode cX7_readsBeacon 37 = .ok (.ifCond .eq 16, 3) := by decide +kernel
theorem dX7_readsBeacon_40 : decode cX7_readsBeacon 40 = .ok (.aload_n 0, 1) := by decide +kernel
theorem dX7_readsBeacon_41 : decode cX7_readsBeacon 41 = .ok (.invokevirtual 173, 3) := by decide +kernel
theorem dX7_readsBeacon_44 : decode cX7_readsBeacon 44 = .ok (.iconst (-1), 1) := by decide +kernel
theorem dX7_readsBeacon_45 : decode cX7_readsBeacon 45 = .ok (.if_icmp .eq 8, 3) := by decide +kernel
theorem dX7_readsBeacon_48 : decode cX7_readsBeacon 48 = .ok (.aload_n 0, 1) := by decide +kernel
theorem dX7_readsBeacon_49 : decode cX7_readsBeacon 49 = .ok (.iconst 3, 1) := by decide +kernel
theorem dX7_readsBeacon_50 : decode cX7_readsBeacon 50 = .ok (.invokevirtual 128, 3) := by decide +kernel
theorem dX7_readsBeacon_53 : decode cX7_readsBeacon 53 = .ok (.aload_n 0, 1) := by decide +kernel
theorem dX7_readsBeacon_54 : decode cX7_readsBeacon 54 = .ok (.invokevirtual 121, 3) := by decide +kernel
theorem dX7_readsBeacon_57 : decode cX7_readsBeacon 57 = .ok (.ifCond .ne 4, 3) := by decide +kernel
theorem dX7_readsBeacon_60 : decode cX7_readsBeacon 60 = .ok (.return_, 1) := by decide +kernel
theorem dX7_readsBeacon_61 : decode cX7_readsBeacon 61 = .ok (.aload_n 0, 1) := by decide +kernel
theorem dX7_readsBeacon_62 : decode cX7_readsBeacon 62 = .ok (.getfield 35, 3) := by decide +kernel
theorem dX7_readsBeacon_65 : decode cX7_readsBeacon 65 = .ok (.iload_n 1, 1) := by decide +kernel
theorem dX7_readsBeacon_66 : decode cX7_readsBeacon 66 = .ok (.aload_n 0, 1) := by decide +kernel
theorem dX7_readsBeacon_67 : decode cX7_readsBeacon 67 = .ok (.getfield 101, 3) := by decide +kernel
theorem dX7_readsBeacon_70 : decode cX7_readsBeacon 70 = .ok (.lastore, 1) := by decide +kernel
theorem dX7_readsBeacon_71 : decode cX7_readsBeacon 71 = .ok (.aload_n 0, 1) := by decide +kernel
theorem dX7_readsBeacon_72 : decode cX7_readsBeacon 72 = .ok (.invokevirtual 131, 3) := by decide +kernel
theorem dX7_readsBeacon_75 : decode cX7_readsBeacon 75 = .ok (.aload_n 0, 1) := by decide +kernel
theorem dX7_readsBeacon_76 : decode cX7_readsBeacon 76 = .ok (.ldc2_w 187, 3) := by decide +kernel
theorem dX7_readsBeacon_79 : decode cX7_readsBeacon 79 = .ok (.invokevirtual 189, 3) := by decide +kernel
theorem dX7_readsBeacon_82 : decode cX7_readsBeacon 82 = .ok (.aload_n 0, 1) := by decide +kernel
theorem dX7_readsBeacon_83 : decode cX7_readsBeacon 83 = .ok (.iconst 2, 1) := by decide +kernel
theorem dX7_readsBeacon_84 : decode cX7_readsBeacon 84 = .ok (.bipush 99, 2) := by decide +kernel
theorem dX7_readsBeacon_86 : decode cX7_readsBeacon 86 = .ok (.invokevirtual 184, 3) := by decide +kernel
theorem dX7_readsBeacon_89 : decode cX7_readsBeacon 89 = .ok (.istore_n 2, 1) := by decide +kernel
theorem dX7_readsBeacon_90 : decode cX7_readsBeacon 90 = .ok (.aload_n 0, 1) := by decide +kernel
theorem dX7_readsBeacon_91 : decode cX7_readsBeacon 91 = .ok (.iload_n 1, 1) := by decide +kernel
theorem dX7_readsBeacon_92 : decode cX7_readsBeacon 92 = .ok (.iconst 0, 1) := by decide +kernel
theorem dX7_readsBeacon_93 : decode cX7_readsBeacon 93 = .ok (.iload_n 2, 1) := by decide +kernel
theorem dX7_readsBeacon_94 : decode cX7_readsBeacon 94 = .ok (.invokevirtual 148, 3) := by decide +kernel
theorem dX7_readsBeacon_97 : decode cX7_readsBeacon 97 = .ok (.aload_n 0, 1) := by decide +kernel
theorem dX7_readsBeacon_98 : decode cX7_readsBeacon 98 = .ok (.iload_n 1, 1) := by decide +kernel
theorem dX7_readsBeacon_99 : decode cX7_readsBeacon 99 = .ok (.iconst 1, 1) := by decide +kernel
theorem dX7_readsBeacon_100 : decode cX7_readsBeacon 100 = .ok (.aload_n 0, 1) := by decide +kernel
theorem dX7_readsBeacon_101 : decode cX7_readsBeacon 101 = .ok (.ldc2_w 193, 3) := by decide +kernel
theorem dX7_readsBeacon_104 : decode cX7_readsBeacon 104 = .ok (.iconst 0, 1) := by decide +kernel
theorem dX7_readsBeacon_105 : decode cX7_readsBeacon 105 = .ok (.iload_n 2, 1) := by decide +kernel
theorem dX7_readsBeacon_106 : decode cX7_readsBeacon 106 = .ok (.iconst 1, 1) := by decide +kernel
theorem dX7_readsBeacon_107 : decode cX7_readsBeacon 107 = .ok (.isub, 1) := by decide +kernel
theorem dX7_readsBeacon_108 : decode cX7_readsBeacon 108 = .ok (.iconst 0, 1) := by decide +kernel
theorem dX7_readsBeacon_109 : decode cX7_readsBeacon 109 = .ok (.invokevirtual 195, 3) := by decide +kernel
theorem dX7_readsBeacon_112 : decode cX7_readsBeacon 112 = .ok (.invokevirtual 148, 3) := by decide +kernel
theorem dX7_readsBeacon_115 : decode cX7_readsBeacon 115 = .ok (.aload_n 0, 1) := by decide +kernel
theorem dX7_readsBeacon_116 : decode cX7_readsBeacon 116 = .ok (.iload_n 1, 1) := by decide +kernel
theorem dX7_readsBeacon_117 : decode cX7_readsBeacon 117 = .ok (.iconst 2, 1) := by decide +kernel
theorem dX7_readsBeacon_118 : decode cX7_readsBeacon 118 = .ok (.aload_n 0, 1) := by decide +kernel
theorem dX7_readsBeacon_119 : decode cX7_readsBeacon 119 = .ok (.ldc2_w 199, 3) := by decide +kernel
theorem dX7_readsBeacon_122 : decode cX7_readsBeacon 122 = .ok (.iconst 1, 1) := by decide +kernel
theorem dX7_readsBeacon_123 : decode cX7_readsBeacon 123 = .ok (.bipush 9, 2) := by decide +kernel
theorem dX7_readsBeacon_125 : decode cX7_readsBeacon 125 = .ok (.iconst 2, 1) := by decide +kernel
theorem dX7_readsBeacon_126 : decode cX7_readsBeacon 126 = .ok (.invokevirtual 195, 3) := by decide +kernel
theorem dX7_readsBeacon_129 : decode cX7_readsBeacon 129 = .ok (.invokevirtual 148, 3) := by decide +kernel
theorem dX7_readsBeacon_132 : decode cX7_readsBeacon 132 = .ok (.aload_n 0, 1) := by decide +kernel
theorem dX7_readsBeacon_133 : decode cX7_readsBeacon 133 = .ok (.iload_n 1, 1) := by decide +kernel
theorem dX7_readsBeacon_134 : decode cX7_readsBeacon 134 = .ok (.iconst 3, 1) := by decide +kernel
theorem dX7_readsBeacon_135 : decode cX7_readsBeacon 135 = .ok (.aload_n 0, 1) := by decide +kernel
theorem dX7_readsBeacon_136 : decode cX7_readsBeacon 136 = .ok (.ldc2_w 201, 3) := by decide +kernel
theorem dX7_readsBeacon_139 : decode cX7_readsBeacon 139 = .ok (.iconst 1, 1) := by decide +kernel
theorem dX7_readsBeacon_140 : decode cX7_readsBeacon 140 = .ok (.bipush 9, 2) := by decide +kernel
theorem dX7_readsBeacon_142 : decode cX7_readsBeacon 142 = .ok (.iconst 2, 1) := by decide +kernel
theorem dX7_readsBeacon_143 : decode cX7_readsBeacon 143 = .ok (.invokevirtual 195, 3) := by decide +kernel
theorem dX7_readsBeacon_146 : decode cX7_readsBeacon 146 = .ok (.invokevirtual 148, 3) := by decide +kernel
theorem dX7_readsBeacon_149 : decode cX7_readsBeacon 149 = .ok (.aload_n 0, 1) := by decide +kernel
theorem dX7_readsBeacon_150 : decode cX7_readsBeacon 150 = .ok (.iload_n 1, 1) := by decide +kernel
theorem dX7_readsBeacon_151 : decode cX7_readsBeacon 151 = .ok (.iconst 4, 1) := by decide +kernel
theorem dX7_readsBeacon_152 : decode cX7_readsBeacon 152 = .ok (.aload_n 0, 1) := by decide +kernel
theorem dX7_readsBeacon_153 : decode cX7_readsBeacon 153 = .ok (.ldc2_w 203, 3) := by decide +kernel
theorem dX7_readsBeacon_156 : decode cX7_readsBeacon 156 = .ok (.iconst 1, 1) := by decide +kernel
theorem dX7_readsBeacon_157 : decode cX7_readsBeacon 157 = .ok (.sipush 999, 3) := by decide +kernel
theorem dX7_readsBeacon_160 : decode cX7_readsBeacon 160 = .ok (.sipush 999, 3) := by decide +kernel
theorem dX7_readsBeacon_163 : decode cX7_readsBeacon 163 = .ok (.invokevirtual 195, 3) := by decide +kernel
theorem dX7_readsBeacon_166 : decode cX7_readsBeacon 166 = .ok (.invokevirtual 148, 3) := by decide +kernel
theorem dX7_readsBeacon_169 : decode cX7_readsBeacon 169 = .ok (.aload_n 0, 1) := by decide +kernel
theorem dX7_readsBeacon_170 : decode cX7_readsBeacon 170 = .ok (.invokevirtual 121, 3) := by decide +kernel
theorem dX7_readsBeacon_173 : decode cX7_readsBeacon 173 = .ok (.ifCond .eq 13, 3) := by decide +kernel
theorem dX7_readsBeacon_176 : decode cX7_readsBeacon 176 = .ok (.aload_n 0, 1) := by decide +kernel
theorem dX7_readsBeacon_177 : decode cX7_readsBeacon 177 = .ok (.getfield 20, 3) := by decide +kernel
theorem dX7_readsBeacon_180 : decode cX7_readsBeacon 180 = .ok (.iconst 0, 1) := by decide +kernel
theorem dX7_readsBeacon_181 : decode cX7_readsBeacon 181 = .ok (.dup2, 1) := by decide +kernel
theorem dX7_readsBeacon_182 : decode cX7_readsBeacon 182 = .ok (.iaload, 1) := by decide +kernel
theorem dX7_readsBeacon_183 : decode cX7_readsBeacon 183 = .ok (.iconst 1, 1) := by decide +kernel
theorem dX7_readsBeacon_184 : decode cX7_readsBeacon 184 = .ok (.iadd, 1) := by decide +kernel
theorem dX7_readsBeacon_185 : decode cX7_readsBeacon 185 = .ok (.iastore, 1) := by decide +kernel
theorem dX7_readsBeacon_186 : decode cX7_readsBeacon 186 = .ok (.return_, 1) := by decide +kernel
theorem dX7_areNear_0 : decode cX7_areNear 0 = .ok (.aload_n 0, 1) := by decide +kernel
theorem dX7_areNear_1 : decode cX7_areNear 1 = .ok (.getfield 20, 3) := by decide +kernel
theorem dX7_areNear_4 : decode cX7_areNear 4 = .ok (.bipush 13, 2) := by decide +kernel
theorem dX7_areNear_6 : decode cX7_areNear 6 = .ok (.iload_n 1, 1) := by decide +kernel
theorem dX7_areNear_7 : decode cX7_areNear 7 = .ok (.iadd, 1) := by decide +kernel
theorem dX7_areNear_8 : decode cX7_areNear 8 = .ok (.iaload, 1) := by decide +kernel
theorem dX7_areNear_9 : decode cX7_areNear 9 = .ok (.iload_n 2, 1) := by decide +kernel
theorem dX7_areNear_10 : decode cX7_areNear 10 = .ok (.invokestatic 180, 3) := by decide +kernel
theorem dX7_areNear_13 : decode cX7_areNear 13 = .ok (.ireturn, 1) := by decide +kernel
theorem dX7_nears_0 : decode cX7_nears 0 = .ok (.iconst 1, 1) := by decide +kernel
theorem dX7_nears_1 : decode cX7_nears 1 = .ok (.iload_n 2, 1) := by decide +kernel
theorem dX7_nears_2 : decode cX7_nears 2 = .ok (.ishl, 1) := by decide +kernel
theorem dX7_nears_3 : decode cX7_nears 3 = .ok (.istore 4, 2) := by decide +kernel
theorem dX7_nears_5 : decode cX7_nears 5 = .ok (.iconst 1, 1) := by decide +kernel
theorem dX7_nears_6 : decode cX7_nears 6 = .ok (.iload_n 1, 1) := by decide +kernel
theorem dX7_nears_7 : decode cX7_nears 7 = .ok (.ishl, 1) := by decide +kernel
theorem dX7_nears_8 : decode cX7_nears 8 = .ok (.istore 5, 2) := by decide +kernel
theorem dX7_nears_10 : decode cX7_nears 10 = .ok (.aload_n 0, 1) := by decide +kernel
theorem dX7_nears_11 : decode cX7_nears 11 = .ok (.getfield 20, 3) := by decide +kernel
theorem dX7_nears_14 : decode cX7_nears 14 = .ok (.bipush 13, 2) := by decide +kernel
theorem dX7_nears_16 : decode cX7_nears 16 = .ok (.iload_n 1, 1) := by decide +kernel
theorem dX7_nears_17 : decode cX7_nears 17 = .ok (.iadd, 1) := by decide +kernel
theorem dX7_nears_18 : decode cX7_nears 18 = .ok (.iload_n 3, 1) := by decide +kernel
theorem dX7_nears_19 : decode cX7_nears 19 = .ok (.ifCond .eq 18, 3) := by decide +kernel
theorem dX7_nears_22 : decode cX7_nears 22 = .ok (.aload_n 0, 1) := by decide +kernel
theorem dX7_nears_23 : decode cX7_nears 23 = .ok (.getfield 20, 3) := by decide +kernel
theorem dX7_nears_26 : decode cX7_nears 26 = .ok (.bipush 13, 2) := by decide +kernel
theorem dX7_nears_28 : decode cX7_nears 28 = .ok (.iload_n 1, 1) := by decide +kernel
theorem dX7_nears_29 : decode cX7_nears 29 = .ok (.iadd, 1) := by decide +kernel
theorem dX7_nears_30 : decode cX7_nears 30 = .ok (.iaload, 1) := by decide +kernel
theorem dX7_nears_31 : decode cX7_nears 31 = .ok (.iload 4, 2) := by decide +kernel
theorem dX7_nears_33 : decode cX7_nears 33 = .ok (.ior, 1) := by decide +kernel
theorem dX7_nears_34 : decode cX7_nears 34 = .ok (.goto 17, 3) := by decide +kernel
theorem dX7_nears_37 : decode cX7_nears 37 = .ok (.aload_n 0, 1) := by decide +kernel
theorem dX7_nears_38 : decode cX7_nears 38 = .ok (.getfield 20, 3) := by decide +kernel
theorem dX7_nears_41 : decode cX7_nears 41 = .ok (.bipush 13, 2) := by decide +kernel
theorem dX7_nears_43 : decode cX7_nears 43 = .ok (.iload_n 1, 1) := by decide +kernel
theorem dX7_nears_44 : decode cX7_nears 44 = .ok (.iadd, 1) := by decide +kernel
theorem dX7_nears_45 : decode cX7_nears 45 = .ok (.iaload, 1) := by decide +kernel
theorem dX7_nears_46 : decode cX7_nears 46 = .ok (.iload 4, 2) := by decide +kernel
theorem dX7_nears_48 : decode cX7_nears 48 = .ok (.iconst (-1), 1) := by decide +kernel
theorem dX7_nears_49 : decode cX7_nears 49 = .ok (.ixor, 1) := by decide +kernel
theorem dX7_nears_50 : decode cX7_nears 50 = .ok (.iand, 1) := by decide +kernel
theorem dX7_nears_51 : decode cX7_nears 51 = .ok (.iastore, 1) := by decide +kernel
theorem dX7_nears_52 : decode cX7_nears 52 = .ok (.aload_n 0, 1) := by decide +kernel
theorem dX7_nears_53 : decode cX7_nears 53 = .ok (.getfield 20, 3) := by decide +kernel
theorem dX7_nears_56 : decode cX7_nears 56 = .ok (.bipush 13, 2) := by decide +kernel
theorem dX7_nears_58 : decode cX7_nears 58 = .ok (.iload_n 2, 1) := by decide +kernel
theorem dX7_nears_59 : decode cX7_nears 59 = .ok (.iadd, 1) := by decide +kernel
theorem dX7_nears_60 : decode cX7_nears 60 = .ok (.iload_n 3, 1) := by decide +kernel
theorem dX7_nears_61 : decode cX7_nears 61 = .ok (.ifCond .eq 18, 3) := by decide +kernel
theorem dX7_nears_64 : decode cX7_nears 64 = .ok (.aload_n 0, 1) := by decide +kernel
theorem dX7_nears_65 : decode cX7_nears 65 = .ok (.getfield 20, 3) := by decide +kernel
theorem dX7_nears_68 : decode cX7_nears 68 = .ok (.bipush 13, 2) := by decide +kernel
theorem dX7_nears_70 : decode cX7_nears 70 = .ok (.iload_n 2, 1) := by decide +kernel
theorem dX7_nears_71 : decode cX7_nears 71 = .ok (.iadd, 1) := by decide +kernel
theorem dX7_nears_72 : decode cX7_nears 72 = .ok (.iaload, 1) := by decide +kernel
theorem dX7_nears_73 : decode cX7_nears 73 = .ok (.iload 5, 2) := by decide +kernel
theorem dX7_nears_75 : decode cX7_nears 75 = .ok (.ior, 1) := by decide +kernel
theorem dX7_nears_76 : decode cX7_nears 76 = .ok (.goto 17, 3) := by decide +kernel
theorem dX7_nears_79 : decode cX7_nears 79 = .ok (.aload_n 0, 1) := by decide +kernel
theorem dX7_nears_80 : decode cX7_nears 80 = .ok (.getfield 20, 3) := by decide +kernel
theorem dX7_nears_83 : decode cX7_nears 83 = .ok (.bipush 13, 2) := by decide +kernel
theorem dX7_nears_85 : decode cX7_nears 85 = .ok (.iload_n 2, 1) := by decide +kernel
theorem dX7_nears_86 : decode cX7_nears 86 = .ok (.iadd, 1) := by decide +kernel
theorem dX7_nears_87 : decode cX7_nears 87 = .ok (.iaload, 1) := by decide +kernel
theorem dX7_nears_88 : decode cX7_nears 88 = .ok (.iload 5, 2) := by decide +kernel
theorem dX7_nears_90 : decode cX7_nears 90 = .ok (.iconst (-1), 1) := by decide +kernel
theorem dX7_nears_91 : decode cX7_nears 91 = .ok (.ixor, 1) := by decide +kernel
theorem dX7_nears_92 : decode cX7_nears 92 = .ok (.iand, 1) := by decide +kernel
theorem dX7_nears_93 : decode cX7_nears 93 = .ok (.iastore, 1) := by decide +kernel
theorem dX7_nears_94 : decode cX7_nears 94 = .ok (.return_, 1) := by decide +kernel
theorem dX7_readsNear_0 : decode cX7_readsNear 0 = .ok (.aload_n 0, 1) := by decide +kernel
theorem dX7_readsNear_1 : decode cX7_readsNear 1 = .ok (.invokevirtual 131, 3) := by decide +kernel
theorem dX7_readsNear_4 : decode cX7_readsNear 4 = .ok (.aload_n 0, 1) := by decide +kernel
theorem dX7_readsNear_5 : decode cX7_readsNear 5 = .ok (.invokevirtual 205, 3) := by decide +kernel
theorem dX7_readsNear_8 : decode cX7_readsNear 8 = .ok (.istore_n 1, 1) := by decide +kernel
theorem dX7_readsNear_9 : decode cX7_readsNear 9 = .ok (.aload_n 0, 1) := by decide +kernel
theorem dX7_readsNear_10 : decode cX7_readsNear 10 = .ok (.invokevirtual 170, 3) := by decide +kernel
theorem dX7_readsNear_13 : decode cX7_readsNear 13 = .ok (.aload_n 0, 1) := by decide +kernel
theorem dX7_readsNear_14 : decode cX7_readsNear 14 = .ok (.invokevirtual 121, 3) := by decide +kernel
theorem dX7_readsNear_17 : decode cX7_readsNear 17 = .ok (.ifCond .eq 10, 3) := by decide +kernel
theorem dX7_readsNear_20 : decode cX7_readsNear 20 = .ok (.aload_n 0, 1) := by decide +kernel
theorem dX7_readsNear_21 : decode cX7_readsNear 21 = .ok (.invokevirtual 173, 3) := by decide +kernel
theorem dX7_readsNear_24 : decode cX7_readsNear 24 = .ok (.goto 4, 3) := by decide +kernel
theorem dX7_readsNear_27 : decode cX7_readsNear 27 = .ok (.iconst (-1), 1) := by decide +kernel
theorem dX7_readsNear_28 : decode cX7_readsNear 28 = .ok (.istore_n 2, 1) := by decide +kernel
theorem dX7_readsNear_29 : decode cX7_readsNear 29 = .ok (.aload_n 0, 1) := by decide +kernel
theorem dX7_readsNear_30 : decode cX7_readsNear 30 = .ok (.invokevirtual 121, 3) := by decide +kernel
theorem dX7_readsNear_33 : decode cX7_readsNear 33 = .ok (.ifCond .eq 27, 3) := by decide +kernel
theorem dX7_readsNear_36 : decode cX7_readsNear 36 = .ok (.iload_n 2, 1) := by decide +kernel
theorem dX7_readsNear_37 : decode cX7_readsNear 37 = .ok (.iconst (-1), 1) := by decide +kernel
theorem dX7_readsNear_38 : decode cX7_readsNear 38 = .ok (.if_icmp .eq 22, 3) := by decide +kernel
theorem dX7_readsNear_41 : decode cX7_readsNear 41 = .ok (.iload_n 2, 1) := by decide +kernel
theorem dX7_readsNear_42 : decode cX7_readsNear 42 = .ok (.iload_n 1, 1) := by decide +kernel
theorem dX7_readsNear_43 : decode cX7_readsNear 43 = .ok (.if_icmp .eq 12, 3) := by decide +kernel
theorem dX7_readsNear_46 : decode cX7_readsNear 46 = .ok (.aload_n 0, 1) := by decide +kernel
theorem dX7_readsNear_47 : decode cX7_readsNear 47 = .ok (.iload_n 1, 1) := by decide +kernel
theorem dX7_readsNear_48 : decode cX7_readsNear 48 = .ok (.iload_n 2, 1) := by decide +kernel
theorem dX7_readsNear_49 : decode cX7_readsNear 49 = .ok (.invokevirtual 208, 3) := by decide +kernel
theorem dX7_readsNear_52 : decode cX7_readsNear 52 = .ok (.ifCond .eq 8, 3) := by decide +kernel
theorem dX7_readsNear_55 : decode cX7_readsNear 55 = .ok (.aload_n 0, 1) := by decide +kernel
theorem dX7_readsNear_56 : decode cX7_readsNear 56 = .ok (.iconst 3, 1) := by decide +kernel
theorem dX7_readsNear_57 : decode cX7_readsNear 57 = .ok (.invokevirtual 128, 3) := by decide +kernel
theorem dX7_readsNear_60 : decode cX7_readsNear 60 = .ok (.aload_n 0, 1) := by decide +kernel
theorem dX7_readsNear_61 : decode cX7_readsNear 61 = .ok (.invokevirtual 121, 3) := by decide +kernel
theorem dX7_readsNear_64 : decode cX7_readsNear 64 = .ok (.ifCond .eq 13, 3) := by decide +kernel
theorem dX7_readsNear_67 : decode cX7_readsNear 67 = .ok (.iload_n 2, 1) := by decide +kernel
theorem dX7_readsNear_68 : decode cX7_readsNear 68 = .ok (.iconst (-1), 1) := by decide +kernel
theorem dX7_readsNear_69 : decode cX7_readsNear 69 = .ok (.if_icmp .ne 8, 3) := by decide +kernel
theorem dX7_readsNear_72 : decode cX7_readsNear 72 = .ok (.aload_n 0, 1) := by decide +kernel
theorem dX7_readsNear_73 : decode cX7_readsNear 73 = .ok (.iconst 4, 1) := by decide +kernel
theorem dX7_readsNear_74 : decode cX7_readsNear 74 = .ok (.invokevirtual 128, 3) := by decide +kernel
theorem dX7_readsNear_77 : decode cX7_readsNear 77 = .ok (.aload_n 0, 1) := by decide +kernel
theorem dX7_readsNear_78 : decode cX7_readsNear 78 = .ok (.invokevirtual 121, 3) := by decide +kernel
theorem dX7_readsNear_81 : decode cX7_readsNear 81 = .ok (.ifCond .ne 4, 3) := by decide +kernel
theorem dX7_readsNear_84 : decode cX7_readsNear 84 = .ok (.return_, 1) := by decide +kernel
theorem dX7_readsNear_85 : decode cX7_readsNear 85 = .ok (.aload_n 0, 1) := by decide +kernel
theorem dX7_readsNear_86 : decode cX7_readsNear 86 = .ok (.invokevirtual 131, 3) := by decide +kernel
theorem dX7_readsNear_89 : decode cX7_readsNear 89 = .ok (.aload_n 0, 1) := by decide +kernel
theorem dX7_readsNear_90 : decode cX7_readsNear 90 = .ok (.iload_n 1, 1) := by decide +kernel
theorem dX7_readsNear_91 : decode cX7_readsNear 91 = .ok (.iload_n 2, 1) := by decide +kernel
theorem dX7_readsNear_92 : decode cX7_readsNear 92 = .ok (.iconst 1, 1) := by decide +kernel
theorem dX7_readsNear_93 : decode cX7_readsNear 93 = .ok (.invokevirtual 211, 3) := by decide +kernel
theorem dX7_readsNear_96 : decode cX7_readsNear 96 = .ok (.return_, 1) := by decide +kernel
theorem dX7_statement_0 : decode cX7_statement 0 = .ok (.aload_n 0, 1) := by decide +kernel
theorem dX7_statement_1 : decode cX7_statement 1 = .ok (.ldc2_w 215, 3) := by decide +kernel
theorem dX7_statement_4 : decode cX7_statement 4 = .ok (.invokevirtual 134, 3) := by decide +kernel
theorem dX7_statement_7 : decode cX7_statement 7 = .ok (.ifCond .eq 40, 3) := by decide +kernel
theorem dX7_statement_10 : decode cX7_statement 10 = .ok (.aload_n 0, 1) := by decide +kernel
theorem dX7_statement_11 : decode cX7_statement 11 = .ok (.iconst 0, 1) := by decide +kernel
theorem dX7_statement_12 : decode cX7_statement 12 = .ok (.invokevirtual 217, 3) := by decide +kernel
theorem dX7_statement_15 : decode cX7_statement 15 = .ok (.iconst 0, 1) := by decide +kernel
theorem dX7_statement_16 : decode cX7_statement 16 = .ok (.istore_n 1, 1) := by decide +kernel
theorem dX7_statement_17 : decode cX7_statement 17 = .ok (.iload_n 1, 1) := by decide +kernel
theorem dX7_statement_18 : decode cX7_statement 18 = .ok (.iconst 4, 1) := by decide +kernel
theorem dX7_statement_19 : decode cX7_statement 19 = .ok (.if_icmp .ge 25, 3) := by decide +kernel
theorem dX7_statement_22 : decode cX7_statement 22 = .ok (.aload_n 0, 1) := by decide +kernel
theorem dX7_statement_23 : decode cX7_statement 23 = .ok (.getfield 20, 3) := by decide +kernel
theorem dX7_statement_26 : decode cX7_statement 26 = .ok (.bipush 8, 2) := by decide +kernel
theorem dX7_statement_28 : decode cX7_statement 28 = .ok (.iload_n 1, 1) := by decide +kernel
theorem dX7_statement_29 : decode cX7_statement 29 = .ok (.iadd, 1) := by decide +kernel
theorem dX7_statement_30 : decode cX7_statement 30 = .ok (.aload_n 0, 1) := by decide +kernel
theorem dX7_statement_31 : decode cX7_statement 31 = .ok (.iconst 0, 1) := by decide +kernel
theorem dX7_statement_32 : decode cX7_statement 32 = .ok (.bipush 99, 2) := by decide +kernel
theorem dX7_statement_34 : decode cX7_statement 34 = .ok (.invokevirtual 184, 3) := by decide +kernel
theorem dX7_statement_37 : decode cX7_statement 37 = .ok (.iastore, 1) := by decide +kernel
theorem dX7_statement_38 : decode cX7_statement 38 = .ok (.iinc 1 1, 3) := by decide +kernel
theorem dX7_statement_41 : decode cX7_statement 41 = .ok (.goto (-24), 3) := by decide +kernel
theorem dX7_statement_44 : decode cX7_statement 44 = .ok (.goto 138, 3) := by decide +kernel
theorem dX7_statement_47 : decode cX7_statement 47 = .ok (.aload_n 0, 1) := by decide +kernel
theorem dX7_statement_48 : decode cX7_statement 48 = .ok (.ldc2_w 220, 3) := by decide +kernel
theorem dX7_statement_51 : decode cX7_statement 51 = .ok (.invokevirtual 134, 3) := by decide +kernel
theorem dX7_statement_54 : decode cX7_statement 54 = .ok (.ifCond .eq 26, 3) := by decide +kernel
theorem dX7_statement_57 : decode cX7_statement 57 = .ok (.aload_n 0, 1) := by decide +kernel
theorem dX7_statement_58 : decode cX7_statement 58 = .ok (.iconst 1, 1) := by decide +kernel
theorem dX7_statement_59 : decode cX7_statement 59 = .ok (.invokevirtual 217, 3) := by decide +kernel
theorem dX7_statement_62 : decode cX7_statement 62 = .ok (.aload_n 0, 1) := by decide +kernel
theorem dX7_statement_63 : decode cX7_statement 63 = .ok (.getfield 20, 3) := by decide +kernel
theorem dX7_statement_66 : decode cX7_statement 66 = .ok (.bipush 7, 2) := by decide +kernel
theorem dX7_statement_68 : decode cX7_statement 68 = .ok (.aload_n 0, 1) := by decide +kernel
theorem dX7_statement_69 : decode cX7_statement 69 = .ok (.iconst 0, 1) := by decide +kernel
theorem dX7_statement_70 : decode cX7_statement 70 = .ok (.sipush 999, 3) := by decide +kernel
theorem dX7_statement_73 : decode cX7_statement 73 = .ok (.invokevirtual 184, 3) := by decide +kernel
theorem dX7_statement_76 : decode cX7_statement 76 = .ok (.iastore, 1) := by decide +kernel
theorem dX7_statement_77 : decode cX7_statement 77 = .ok (.goto 105, 3) := by decide +kernel
theorem dX7_statement_80 : decode cX7_statement 80 = .ok (.aload_n 0, 1) := by decide +kernel
theorem dX7_statement_81 : decode cX7_statement 81 = .ok (.ldc2_w 222, 3) := by decide +kernel
theorem dX7_statement_84 : decode cX7_statement 84 = .ok (.invokevirtual 134, 3) := by decide +kernel
theorem dX7_statement_87 : decode cX7_statement 87 = .ok (.ifCond .eq 24, 3) := by decide +kernel
theorem dX7_statement_90 : decode cX7_statement 90 = .ok (.aload_n 0, 1) := by decide +kernel
theorem dX7_statement_91 : decode cX7_statement 91 = .ok (.iconst 2, 1) := by decide +kernel
theorem dX7_statement_92 : decode cX7_statement 92 = .ok (.invokevirtual 217, 3) := by decide +kernel
theorem dX7_statement_95 : decode cX7_statement 95 = .ok (.aload_n 0, 1) := by decide +kernel
theorem dX7_statement_96 : decode cX7_statement 96 = .ok (.getfield 20, 3) := by decide +kernel
theorem dX7_statement_99 : decode cX7_statement 99 = .ok (.iconst 2, 1) := by decide +kernel
theorem dX7_statement_100 : decode cX7_statement 100 = .ok (.aload_n 0, 1) := by decide +kernel
theorem dX7_statement_101 : decode cX7_statement 101 = .ok (.iconst 1, 1) := by decide +kernel
theorem dX7_statement_102 : decode cX7_statement 102 = .ok (.bipush 9, 2) := by decide +kernel
theorem dX7_statement_104 : decode cX7_statement 104 = .ok (.invokevirtual 184, 3) := by decide +kernel
theorem dX7_statement_107 : decode cX7_statement 107 = .ok (.iastore, 1) := by decide +kernel
theorem dX7_statement_108 : decode cX7_statement 108 = .ok (.goto 74, 3) := by decide +kernel
theorem dX7_statement_111 : decode cX7_statement 111 = .ok (.aload_n 0, 1) := by decide +kernel
theorem dX7_statement_112 : decode cX7_statement 112 = .ok (.ldc2_w 224, 3) := by decide +kernel
theorem dX7_statement_115 : decode cX7_statement 115 = .ok (.invokevirtual 134, 3) := by decide +kernel
theorem dX7_statement_118 : decode cX7_statement 118 = .ok (.ifCond .eq 25, 3) := by decide +kernel
theorem dX7_statement_121 : decode cX7_statement 121 = .ok (.aload_n 0, 1) := by decide +kernel
theorem dX7_statement_122 : decode cX7_statement 122 = .ok (.iconst 3, 1) := by decide +kernel
theorem dX7_statement_123 : decode cX7_statement 123 = .ok (.invokevirtual 217, 3) := by decide +kernel
theorem dX7_statement_126 : decode cX7_statement 126 = .ok (.aload_n 0, 1) := by decide +kernel
theorem dX7_statement_127 : decode cX7_statement 127 = .ok (.getfield 20, 3) := by decide +kernel
theorem dX7_statement_130 : decode cX7_statement 130 = .ok (.iconst 3, 1) := by decide +kernel
theorem dX7_statement_131 : decode cX7_statement 131 = .ok (.aload_n 0, 1) := by decide +kernel
theorem dX7_statement_132 : decode cX7_statement 132 = .ok (.iconst 1, 1) := by decide +kernel
theorem dX7_statement_133 : decode cX7_statement 133 = .ok (.sipush 999, 3) := by decide +kernel
theorem dX7_statement_136 : decode cX7_statement 136 = .ok (.invokevirtual 184, 3) := by decide +kernel
theorem dX7_statement_139 : decode cX7_statement 139 = .ok (.iastore, 1) := by decide +kernel
theorem dX7_statement_140 : decode cX7_statement 140 = .ok (.goto 42, 3) := by decide +kernel
theorem dX7_statement_143 : decode cX7_statement 143 = .ok (.aload_n 0, 1) := by decide +kernel
theorem dX7_statement_144 : decode cX7_statement 144 = .ok (.ldc2_w 226, 3) := by decide +kernel
theorem dX7_statement_147 : decode cX7_statement 147 = .ok (.invokevirtual 134, 3) := by decide +kernel
theorem dX7_statement_150 : decode cX7_statement 150 = .ok (.ifCond .eq 10, 3) := by decide +kernel
theorem dX7_statement_153 : decode cX7_statement 153 = .ok (.aload_n 0, 1) := by decide +kernel
theorem dX7_statement_154 : decode cX7_statement 154 = .ok (.invokevirtual 228, 3) := by decide +kernel
theorem dX7_statement_157 : decode cX7_statement 157 = .ok (.goto 25, 3) := by decide +kernel
theorem dX7_statement_160 : decode cX7_statement 160 = .ok (.aload_n 0, 1) := by decide +kernel
theorem dX7_statement_161 : decode cX7_statement 161 = .ok (.ldc2_w 231, 3) := by decide +kernel
theorem dX7_statement_164 : decode cX7_statement 164 = .ok (.invokevirtual 134, 3) := by decide +kernel
theorem dX7_statement_167 : decode cX7_statement 167 = .ok (.ifCond .eq 10, 3) := by decide +kernel
theorem dX7_statement_170 : decode cX7_statement 170 = .ok (.aload_n 0, 1) := by decide +kernel
theorem dX7_statement_171 : decode cX7_statement 171 = .ok (.invokevirtual 233, 3) := by decide +kernel
theorem dX7_statement_174 : decode cX7_statement 174 = .ok (.goto 8, 3) := by decide +kernel
theorem dX7_statement_177 : decode cX7_statement 177 = .ok (.aload_n 0, 1) := by decide +kernel
theorem dX7_statement_178 : decode cX7_statement 178 = .ok (.iconst 1, 1) := by decide +kernel
theorem dX7_statement_179 : decode cX7_statement 179 = .ok (.invokevirtual 128, 3) := by decide +kernel
theorem dX7_statement_182 : decode cX7_statement 182 = .ok (.aload_n 0, 1) := by decide +kernel
theorem dX7_statement_183 : decode cX7_statement 183 = .ok (.bipush 59, 2) := by decide +kernel
theorem dX7_statement_185 : decode cX7_statement 185 = .ok (.invokevirtual 236, 3) := by decide +kernel
theorem dX7_statement_188 : decode cX7_statement 188 = .ok (.return_, 1) := by decide +kernel
theorem dX7_readText_0 : decode cX7_readText 0 = .ok (.aload_n 0, 1) := by decide +kernel
theorem dX7_readText_1 : decode cX7_readText 1 = .ok (.invokevirtual 239, 3) := by decide +kernel
theorem dX7_readText_4 : decode cX7_readText 4 = .ok (.aload_n 0, 1) := by decide +kernel
theorem dX7_readText_5 : decode cX7_readText 5 = .ok (.invokevirtual 242, 3) := by decide +kernel
theorem dX7_readText_8 : decode cX7_readText 8 = .ok (.aload_n 0, 1) := by decide +kernel
theorem dX7_readText_9 : decode cX7_readText 9 = .ok (.getfield 35, 3) := by decide +kernel
theorem dX7_readText_12 : decode cX7_readText 12 = .ok (.aload_n 0, 1) := by decide +kernel
theorem dX7_readText_13 : decode cX7_readText 13 = .ok (.getfield 42, 3) := by decide +kernel
theorem dX7_readText_16 : decode cX7_readText 16 = .ok (.invokestatic 162, 3) := by decide +kernel
theorem dX7_readText_19 : decode cX7_readText 19 = .ok (.aload_n 0, 1) := by decide +kernel
theorem dX7_readText_20 : decode cX7_readText 20 = .ok (.invokevirtual 63, 3) := by decide +kernel
theorem dX7_readText_23 : decode cX7_readText 23 = .ok (.aload_n 0, 1) := by decide +kernel
theorem dX7_readText_24 : decode cX7_readText 24 = .ok (.iconst 0, 1) := by decide +kernel
theorem dX7_readText_25 : decode cX7_readText 25 = .ok (.putfield 177, 3) := by decide +kernel
theorem dX7_readText_28 : decode cX7_readText 28 = .ok (.aload_n 0, 1) := by decide +kernel
theorem dX7_readText_29 : decode cX7_readText 29 = .ok (.invokevirtual 121, 3) := by decide +kernel
theorem dX7_readText_32 : decode cX7_readText 32 = .ok (.ifCond .eq 17, 3) := by decide +kernel
theorem dX7_readText_35 : decode cX7_readText 35 = .ok (.aload_n 0, 1) := by decide +kernel
theorem dX7_readText_36 : decode cX7_readText 36 = .ok (.getfield 108, 3) := by decide +kernel
theorem dX7_readText_39 : decode cX7_readText 39 = .ok (.ifCond .eq 10, 3) := by decide +kernel
theorem dX7_readText_42 : decode cX7_readText 42 = .ok (.aload_n 0, 1) := by decide +kernel
theorem dX7_readText_43 : decode cX7_readText 43 = .ok (.invokevirtual 245, 3) := by decide +kernel
theorem dX7_readText_46 : decode cX7_readText 46 = .ok (.goto (-18), 3) := by decide +kernel
theorem dX7_readText_49 : decode cX7_readText 49 = .ok (.aload_n 0, 1) := by decide +kernel
theorem dX7_readText_50 : decode cX7_readText 50 = .ok (.invokevirtual 248, 3) := by decide +kernel
theorem dX7_readText_53 : decode cX7_readText 53 = .ok (.ifCond .ne 29, 3) := by decide +kernel
theorem dX7_readText_56 : decode cX7_readText 56 = .ok (.aload_n 0, 1) := by decide +kernel
theorem dX7_readText_57 : decode cX7_readText 57 = .ok (.getfield 26, 3) := by decide +kernel
theorem dX7_readText_60 : decode cX7_readText 60 = .ok (.iconst 0, 1) := by decide +kernel
theorem dX7_readText_61 : decode cX7_readText 61 = .ok (.aload_n 0, 1) := by decide +kernel
theorem dX7_readText_62 : decode cX7_readText 62 = .ok (.getfield 20, 3) := by decide +kernel
theorem dX7_readText_65 : decode cX7_readText 65 = .ok (.iconst 0, 1) := by decide +kernel
theorem dX7_readText_66 : decode cX7_readText 66 = .ok (.invokestatic 152, 3) := by decide +kernel
theorem dX7_readText_69 : decode cX7_readText 69 = .ok (.aload_n 0, 1) := by decide +kernel
theorem dX7_readText_70 : decode cX7_readText 70 = .ok (.getfield 42, 3) := by decide +kernel
theorem dX7_readText_73 : decode cX7_readText 73 = .ok (.aload_n 0, 1) := by decide +kernel
theorem dX7_readText_74 : decode cX7_readText 74 = .ok (.getfield 35, 3) := by decide +kernel
theorem dX7_readText_77 : decode cX7_readText 77 = .ok (.invokestatic 162, 3) := by decide +kernel
theorem dX7_readText_80 : decode cX7_readText 80 = .ok (.iconst 0, 1) := by decide +kernel
theorem dX7_readText_81 : decode cX7_readText 81 = .ok (.ireturn, 1) := by decide +kernel
theorem dX7_readText_82 : decode cX7_readText 82 = .ok (.aload_n 0, 1) := by decide +kernel
theorem dX7_readText_83 : decode cX7_readText 83 = .ok (.iconst 0, 1) := by decide +kernel
theorem dX7_readText_84 : decode cX7_readText 84 = .ok (.putfield 156, 3) := by decide +kernel
theorem dX7_readText_87 : decode cX7_readText 87 = .ok (.aload_n 0, 1) := by decide +kernel
theorem dX7_readText_88 : decode cX7_readText 88 = .ok (.getfield 20, 3) := by decide +kernel
theorem dX7_readText_91 : decode cX7_readText 91 = .ok (.iconst 0, 1) := by decide +kernel
theorem dX7_readText_92 : decode cX7_readText 92 = .ok (.iaload, 1) := by decide +kernel
theorem dX7_readText_93 : decode cX7_readText 93 = .ok (.ireturn, 1) := by decide +kernel
theorem dX7_lesser_0 : decode cX7_lesser 0 = .ok (.iload_n 0, 1) := by decide +kernel
theorem dX7_lesser_1 : decode cX7_lesser 1 = .ok (.iload_n 1, 1) := by decide +kernel
theorem dX7_lesser_2 : decode cX7_lesser 2 = .ok (.if_icmp .ge 7, 3) := by decide +kernel
theorem dX7_lesser_5 : decode cX7_lesser 5 = .ok (.iload_n 0, 1) := by decide +kernel
theorem dX7_lesser_6 : decode cX7_lesser 6 = .ok (.goto 4, 3) := by decide +kernel
theorem dX7_lesser_9 : decode cX7_lesser 9 = .ok (.iload_n 1, 1) := by decide +kernel
theorem dX7_lesser_10 : decode cX7_lesser 10 = .ok (.ireturn, 1) := by decide +kernel
theorem dX7_greater_0 : decode cX7_greater 0 = .ok (.iload_n 0, 1) := by decide +kernel
theorem dX7_greater_1 : decode cX7_greater 1 = .ok (.iload_n 1, 1) := by decide +kernel
theorem dX7_greater_2 : decode cX7_greater 2 = .ok (.if_icmp .le 7, 3) := by decide +kernel
theorem dX7_greater_5 : decode cX7_greater 5 = .ok (.iload_n 0, 1) := by decide +kernel
theorem dX7_greater_6 : decode cX7_greater 6 = .ok (.goto 4, 3) := by decide +kernel
theorem dX7_greater_9 : decode cX7_greater 9 = .ok (.iload_n 1, 1) := by decide +kernel
theorem dX7_greater_10 : decode cX7_greater 10 = .ok (.ireturn, 1) := by decide +kernel
theorem dX7_bits_0 : decode cX7_bits 0 = .ok (.iconst 0, 1) := by decide +kernel
theorem dX7_bits_1 : decode cX7_bits 1 = .ok (.istore_n 1, 1) := by decide +kernel
theorem dX7_bits_2 : decode cX7_bits 2 = .ok (.iconst 0, 1) := by decide +kernel
theorem dX7_bits_3 : decode cX7_bits 3 = .ok (.istore_n 2, 1) := by decide +kernel
theorem dX7_bits_4 : decode cX7_bits 4 = .ok (.iload_n 2, 1) := by decide +kernel
theorem dX7_bits_5 : decode cX7_bits 5 = .ok (.bipush 8, 2) := by decide +kernel
theorem dX7_bits_7 : decode cX7_bits 7 = .ok (.if_icmp .ge 17, 3) := by decide +kernel
theorem dX7_bits_10 : decode cX7_bits 10 = .ok (.iload_n 1, 1) := by decide +kernel
theorem dX7_bits_11 : decode cX7_bits 11 = .ok (.iload_n 0, 1) := by decide +kernel
theorem dX7_bits_12 : decode cX7_bits 12 = .ok (.iload_n 2, 1) := by decide +kernel
theorem dX7_bits_13 : decode cX7_bits 13 = .ok (.ishr, 1) := by decide +kernel
theorem dX7_bits_14 : decode cX7_bits 14 = .ok (.iconst 1, 1) := by decide +kernel
theorem dX7_bits_15 : decode cX7_bits 15 = .ok (.iand, 1) := by decide +kernel
theorem dX7_bits_16 : decode cX7_bits 16 = .ok (.iadd, 1) := by decide +kernel
theorem dX7_bits_17 : decode cX7_bits 17 = .ok (.istore_n 1, 1) := by decide +kernel
theorem dX7_bits_18 : decode cX7_bits 18 = .ok (.iinc 2 1, 3) := by decide +kernel
theorem dX7_bits_21 : decode cX7_bits 21 = .ok (.goto (-17), 3) := by decide +kernel
theorem dX7_bits_24 : decode cX7_bits 24 = .ok (.iload_n 1, 1) := by decide +kernel
theorem dX7_bits_25 : decode cX7_bits 25 = .ok (.ireturn, 1) := by decide +kernel
theorem dX7_isAt_0 : decode cX7_isAt 0 = .ok (.aload_n 0, 1) := by decide +kernel
theorem dX7_isAt_1 : decode cX7_isAt 1 = .ok (.iload_n 1, 1) := by decide +kernel
theorem dX7_isAt_2 : decode cX7_isAt 2 = .ok (.iconst 5, 1) := by decide +kernel
theorem dX7_isAt_3 : decode cX7_isAt 3 = .ok (.invokevirtual 251, 3) := by decide +kernel
theorem dX7_isAt_6 : decode cX7_isAt 6 = .ok (.iload_n 2, 1) := by decide +kernel
theorem dX7_isAt_7 : decode cX7_isAt 7 = .ok (.if_icmp .ne 7, 3) := by decide +kernel
theorem dX7_isAt_10 : decode cX7_isAt 10 = .ok (.iconst 1, 1) := by decide +kernel
theorem dX7_isAt_11 : decode cX7_isAt 11 = .ok (.goto 4, 3) := by decide +kernel
theorem dX7_isAt_14 : decode cX7_isAt 14 = .ok (.iconst 0, 1) := by decide +kernel
theorem dX7_isAt_15 : decode cX7_isAt 15 = .ok (.ireturn, 1) := by decide +kernel
theorem dX7_isKnown_0 : decode cX7_isKnown 0 = .ok (.aload_n 0, 1) := by decide +kernel
theorem dX7_isKnown_1 : decode cX7_isKnown 1 = .ok (.iload_n 1, 1) := by decide +kernel
theorem dX7_isKnown_2 : decode cX7_isKnown 2 = .ok (.bipush 19, 2) := by decide +kernel
theorem dX7_isKnown_4 : decode cX7_isKnown 4 = .ok (.iload_n 2, 1) := by decide +kernel
theorem dX7_isKnown_5 : decode cX7_isKnown 5 = .ok (.iadd, 1) := by decide +kernel
theorem dX7_isKnown_6 : decode cX7_isKnown 6 = .ok (.invokevirtual 251, 3) := by decide +kernel
theorem dX7_isKnown_9 : decode cX7_isKnown 9 = .ok (.istore_n 3, 1) := by decide +kernel
theorem dX7_isKnown_10 : decode cX7_isKnown 10 = .ok (.iload_n 3, 1) := by decide +kernel
theorem dX7_isKnown_11 : decode cX7_isKnown 11 = .ok (.iconst (-1), 1) := by decide +kernel
theorem dX7_isKnown_12 : decode cX7_isKnown 12 = .ok (.if_icmp .eq 24, 3) := by decide +kernel
theorem dX7_isKnown_15 : decode cX7_isKnown 15 = .ok (.aload_n 0, 1) := by decide +kernel
theorem dX7_isKnown_16 : decode cX7_isKnown 16 = .ok (.getfield 20, 3) := by decide +kernel
theorem dX7_isKnown_19 : decode cX7_isKnown 19 = .ok (.iconst 1, 1) := by decide +kernel
theorem dX7_isKnown_20 : decode cX7_isKnown 20 = .ok (.iaload, 1) := by decide +kernel
theorem dX7_isKnown_21 : decode cX7_isKnown 21 = .ok (.iload_n 3, 1) := by decide +kernel
theorem dX7_isKnown_22 : decode cX7_isKnown 22 = .ok (.isub, 1) := by decide +kernel
theorem dX7_isKnown_23 : decode cX7_isKnown 23 = .ok (.aload_n 0, 1) := by decide +kernel
theorem dX7_isKnown_24 : decode cX7_isKnown 24 = .ok (.getfield 20, 3) := by decide +kernel
theorem dX7_isKnown_27 : decode cX7_isKnown 27 = .ok (.iconst 3, 1) := by decide +kernel
theorem dX7_isKnown_28 : decode cX7_isKnown 28 = .ok (.iaload, 1) := by decide +kernel
theorem dX7_isKnown_29 : decode cX7_isKnown 29 = .ok (.if_icmp .gt 7, 3) := by decide +kernel
theorem dX7_isKnown_32 : decode cX7_isKnown 32 = .ok (.iconst 1, 1) := by decide +kernel
theorem dX7_isKnown_33 : decode cX7_isKnown 33 = .ok (.goto 4, 3) := by decide +kernel
theorem dX7_isKnown_36 : decode cX7_isKnown 36 = .ok (.iconst 0, 1) := by decide +kernel
theorem dX7_isKnown_37 : decode cX7_isKnown 37 = .ok (.ireturn, 1) := by decide +kernel
theorem dX7_knownSet_0 : decode cX7_knownSet 0 = .ok (.iconst 0, 1) := by decide +kernel
theorem dX7_knownSet_1 : decode cX7_knownSet 1 = .ok (.istore_n 2, 1) := by decide +kernel
theorem dX7_knownSet_2 : decode cX7_knownSet 2 = .ok (.iconst 0, 1) := by decide +kernel
theorem dX7_knownSet_3 : decode cX7_knownSet 3 = .ok (.istore_n 3, 1) := by decide +kernel
theorem dX7_knownSet_4 : decode cX7_knownSet 4 = .ok (.iload_n 3, 1) := by decide +kernel
theorem dX7_knownSet_5 : decode cX7_knownSet 5 = .ok (.aload_n 0, 1) := by decide +kernel
theorem dX7_knownSet_6 : decode cX7_knownSet 6 = .ok (.getfield 20, 3) := by decide +kernel
theorem dX7_knownSet_9 : decode cX7_knownSet 9 = .ok (.iconst 0, 1) := by decide +kernel
theorem dX7_knownSet_10 : decode cX7_knownSet 10 = .ok (.iaload, 1) := by decide +kernel
theorem dX7_knownSet_11 : decode cX7_knownSet 11 = .ok (.if_icmp .ge 28, 3) := by decide +kernel
theorem dX7_knownSet_14 : decode cX7_knownSet 14 = .ok (.iload_n 2, 1) := by decide +kernel
theorem dX7_knownSet_15 : decode cX7_knownSet 15 = .ok (.aload_n 0, 1) := by decide +kernel
theorem dX7_knownSet_16 : decode cX7_knownSet 16 = .ok (.iload_n 1, 1) := by decide +kernel
theorem dX7_knownSet_17 : decode cX7_knownSet 17 = .ok (.iload_n 3, 1) := by decide +kernel
theorem dX7_knownSet_18 : decode cX7_knownSet 18 = .ok (.invokevirtual 254, 3) := by decide +kernel
theorem dX7_knownSet_21 : decode cX7_knownSet 21 = .ok (.ifCond .eq 9, 3) := by decide +kernel
theorem dX7_knownSet_24 : decode cX7_knownSet 24 = .ok (.iconst 1, 1) := by decide +kernel
theorem dX7_knownSet_25 : decode cX7_knownSet 25 = .ok (.iload_n 3, 1) := by decide +kernel
theorem dX7_knownSet_26 : decode cX7_knownSet 26 = .ok (.ishl, 1) := by decide +kernel
theorem dX7_knownSet_27 : decode cX7_knownSet 27 = .ok (.goto 4, 3) := by decide +kernel
theorem dX7_knownSet_30 : decode cX7_knownSet 30 = .ok (.iconst 0, 1) := by decide +kernel
theorem dX7_knownSet_31 : decode cX7_knownSet 31 = .ok (.ior, 1) := by decide +kernel
theorem dX7_knownSet_32 : decode cX7_knownSet 32 = .ok (.istore_n 2, 1) := by decide +kernel
theorem dX7_knownSet_33 : decode cX7_knownSet 33 = .ok (.iinc 3 1, 3) := by decide +kernel
theorem dX7_knownSet_36 : decode cX7_knownSet 36 = .ok (.goto (-32), 3) := by decide +kernel
theorem dX7_knownSet_39 : decode cX7_knownSet 39 = .ok (.iload_n 2, 1) := by decide +kernel
theorem dX7_knownSet_40 : decode cX7_knownSet 40 = .ok (.ireturn, 1) := by decide +kernel
theorem dX7_knowsAll_0 : decode cX7_knowsAll 0 = .ok (.aload_n 0, 1) := by decide +kernel
theorem dX7_knowsAll_1 : decode cX7_knowsAll 1 = .ok (.getfield 20, 3) := by decide +kernel
theorem dX7_knowsAll_4 : decode cX7_knowsAll 4 = .ok (.bipush 13, 2) := by decide +kernel
theorem dX7_knowsAll_6 : decode cX7_knowsAll 6 = .ok (.iload_n 1, 1) := by decide +kernel
theorem dX7_knowsAll_7 : decode cX7_knowsAll 7 = .ok (.iadd, 1) := by decide +kernel
theorem dX7_knowsAll_8 : decode cX7_knowsAll 8 = .ok (.iaload, 1) := by decide +kernel
theorem dX7_knowsAll_9 : decode cX7_knowsAll 9 = .ok (.aload_n 0, 1) := by decide +kernel
theorem dX7_knowsAll_10 : decode cX7_knowsAll 10 = .ok (.iload_n 1, 1) := by decide +kernel
theorem dX7_knowsAll_11 : decode cX7_knowsAll 11 = .ok (.invokevirtual 257, 3) := by decide +kernel
theorem dX7_knowsAll_14 : decode cX7_knowsAll 14 = .ok (.iconst (-1), 1) := by decide +kernel
theorem dX7_knowsAll_15 : decode cX7_knowsAll 15 = .ok (.ixor, 1) := by decide +kernel
theorem dX7_knowsAll_16 : decode cX7_knowsAll 16 = .ok (.iand, 1) := by decide +kernel
theorem dX7_knowsAll_17 : decode cX7_knowsAll 17 = .ok (.ifCond .ne 7, 3) := by decide +kernel
theorem dX7_knowsAll_20 : decode cX7_knowsAll 20 = .ok (.iconst 1, 1) := by decide +kernel
theorem dX7_knowsAll_21 : decode cX7_knowsAll 21 = .ok (.goto 4, 3) := by decide +kernel
theorem dX7_knowsAll_24 : decode cX7_knowsAll 24 = .ok (.iconst 0, 1) := by decide +kernel
theorem dX7_knowsAll_25 : decode cX7_knowsAll 25 = .ok (.ireturn, 1) := by decide +kernel
theorem dX7_windowOf_0 : decode cX7_windowOf 0 = .ok (.bipush 32, 2) := by decide +kernel
theorem dX7_windowOf_2 : decode cX7_windowOf 2 = .ok (.iconst 2, 1) := by decide +kernel
theorem dX7_windowOf_3 : decode cX7_windowOf 3 = .ok (.iconst 4, 1) := by decide +kernel
theorem dX7_windowOf_4 : decode cX7_windowOf 4 = .ok (.aload_n 0, 1) := by decide +kernel
theorem dX7_windowOf_5 : decode cX7_windowOf 5 = .ok (.iload_n 1, 1) := by decide +kernel
theorem dX7_windowOf_6 : decode cX7_windowOf 6 = .ok (.bipush 7, 2) := by decide +kernel
theorem dX7_windowOf_8 : decode cX7_windowOf 8 = .ok (.invokevirtual 251, 3) := by decide +kernel
theorem dX7_windowOf_11 : decode cX7_windowOf 11 = .ok (.invokestatic 260, 3) := by decide +kernel
theorem dX7_windowOf_14 : decode cX7_windowOf 14 = .ok (.ishl, 1) := by decide +kernel
theorem dX7_windowOf_15 : decode cX7_windowOf 15 = .ok (.invokestatic 260, 3) := by decide +kernel
theorem dX7_windowOf_18 : decode cX7_windowOf 18 = .ok (.ireturn, 1) := by decide +kernel
theorem dX7_draws_0 : decode cX7_draws 0 = .ok (.aload_n 0, 1) := by decide +kernel
theorem dX7_draws_1 : decode cX7_draws 1 = .ok (.getfield 20, 3) := by decide +kernel
theorem dX7_draws_4 : decode cX7_draws 4 = .ok (.bipush 7, 2) := by decide +kernel
theorem dX7_draws_6 : decode cX7_draws 6 = .ok (.aload_n 0, 1) := by decide +kernel
theorem dX7_draws_7 : decode cX7_draws 7 = .ok (.getfield 20, 3) := by decide +kernel
theorem dX7_draws_10 : decode cX7_draws 10 = .ok (.bipush 7, 2) := by decide +kernel
theorem dX7_draws_12 : decode cX7_draws 12 = .ok (.iaload, 1) := by decide +kernel
theorem dX7_draws_13 : decode cX7_draws 13 = .ok (.ldc_w 263, 3) := by decide +kernel
theorem dX7_draws_16 : decode cX7_draws 16 = .ok (.imul, 1) := by decide +kernel
theorem dX7_draws_17 : decode cX7_draws 17 = .ok (.sipush 12345, 3) := by decide +kernel
theorem dX7_draws_20 : decode cX7_draws 20 = .ok (.iadd, 1) := by decide +kernel
theorem dX7_draws_21 : decode cX7_draws 21 = .ok (.iastore, 1) := by decide +kernel
theorem dX7_draws_22 : decode cX7_draws 22 = .ok (.aload_n 0, 1) := by decide +kernel
theorem dX7_draws_23 : decode cX7_draws 23 = .ok (.getfield 20, 3) := by decide +kernel
theorem dX7_draws_26 : decode cX7_draws 26 = .ok (.bipush 7, 2) := by decide +kernel
theorem dX7_draws_28 : decode cX7_draws 28 = .ok (.iaload, 1) := by decide +kernel
theorem dX7_draws_29 : decode cX7_draws 29 = .ok (.bipush 16, 2) := by decide +kernel
theorem dX7_draws_31 : decode cX7_draws 31 = .ok (.iushr, 1) := by decide +kernel
theorem dX7_draws_32 : decode cX7_draws 32 = .ok (.iload_n 1, 1) := by decide +kernel
theorem dX7_draws_33 : decode cX7_draws 33 = .ok (.irem, 1) := by decide +kernel
theorem dX7_draws_34 : decode cX7_draws 34 = .ok (.ireturn, 1) := by decide +kernel
theorem dX7_isDueAt_0 : decode cX7_isDueAt 0 = .ok (.iload_n 2, 1) := by decide +kernel
theorem dX7_isDueAt_1 : decode cX7_isDueAt 1 = .ok (.aload_n 0, 1) := by decide +kernel
theorem dX7_isDueAt_2 : decode cX7_isDueAt 2 = .ok (.iload_n 1, 1) := by decide +kernel
theorem dX7_isDueAt_3 : decode cX7_isDueAt 3 = .ok (.iconst 1, 1) := by decide +kernel
theorem dX7_isDueAt_4 : decode cX7_isDueAt 4 = .ok (.invokevirtual 251, 3) := by decide +kernel
theorem dX7_isDueAt_7 : decode cX7_isDueAt 7 = .ok (.isub, 1) := by decide +kernel
theorem dX7_isDueAt_8 : decode cX7_isDueAt 8 = .ok (.istore_n 3, 1) := by decide +kernel
theorem dX7_isDueAt_9 : decode cX7_isDueAt 9 = .ok (.iload_n 3, 1) := by decide +kernel
theorem dX7_isDueAt_10 : decode cX7_isDueAt 10 = .ok (.ifCond .lt 18, 3) := by decide +kernel
theorem dX7_isDueAt_13 : decode cX7_isDueAt 13 = .ok (.iload_n 3, 1) := by decide +kernel
theorem dX7_isDueAt_14 : decode cX7_isDueAt 14 = .ok (.aload_n 0, 1) := by decide +kernel
theorem dX7_isDueAt_15 : decode cX7_isDueAt 15 = .ok (.iload_n 1, 1) := by decide +kernel
theorem dX7_isDueAt_16 : decode cX7_isDueAt 16 = .ok (.iconst 0, 1) := by decide +kernel
theorem dX7_isDueAt_17 : decode cX7_isDueAt 17 = .ok (.invokevirtual 251, 3) := by decide +kernel
theorem dX7_isDueAt_20 : decode cX7_isDueAt 20 = .ok (.irem, 1) := by decide +kernel
theorem dX7_isDueAt_21 : decode cX7_isDueAt 21 = .ok (.ifCond .ne 7, 3) := by decide +kernel
theorem dX7_isDueAt_24 : decode cX7_isDueAt 24 = .ok (.iconst 1, 1) := by decide +kernel
theorem dX7_isDueAt_25 : decode cX7_isDueAt 25 = .ok (.goto 4, 3) := by decide +kernel
theorem dX7_isDueAt_28 : decode cX7_isDueAt 28 = .ok (.iconst 0, 1) := by decide +kernel
theorem dX7_isDueAt_29 : decode cX7_isDueAt 29 = .ok (.ireturn, 1) := by decide +kernel
theorem dX7_enters_0 : decode cX7_enters 0 = .ok (.aload_n 0, 1) := by decide +kernel
theorem dX7_enters_1 : decode cX7_enters 1 = .ok (.iload_n 1, 1) := by decide +kernel
theorem dX7_enters_2 : decode cX7_enters 2 = .ok (.iconst 5, 1) := by decide +kernel
theorem dX7_enters_3 : decode cX7_enters 3 = .ok (.iload_n 2, 1) := by decide +kernel
theorem dX7_enters_4 : decode cX7_enters 4 = .ok (.invokevirtual 148, 3) := by decide +kernel
theorem dX7_enters_7 : decode cX7_enters 7 = .ok (.aload_n 0, 1) := by decide +kernel
theorem dX7_enters_8 : decode cX7_enters 8 = .ok (.iload_n 1, 1) := by decide +kernel
theorem dX7_enters_9 : decode cX7_enters 9 = .ok (.bipush 6, 2) := by decide +kernel
theorem dX7_enters_11 : decode cX7_enters 11 = .ok (.iload_n 3, 1) := by decide +kernel
theorem dX7_enters_12 : decode cX7_enters 12 = .ok (.invokevirtual 148, 3) := by decide +kernel
theorem dX7_enters_15 : decode cX7_enters 15 = .ok (.return_, 1) := by decide +kernel
theorem dX7_listens_0 : decode cX7_listens 0 = .ok (.aload_n 0, 1) := by decide +kernel
theorem dX7_listens_1 : decode cX7_listens 1 = .ok (.iload_n 1, 1) := by decide +kernel
theorem dX7_listens_2 : decode cX7_listens 2 = .ok (.bipush 8, 2) := by decide +kernel
theorem dX7_listens_4 : decode cX7_listens 4 = .ok (.iconst 0, 1) := by decide +kernel
theorem dX7_listens_5 : decode cX7_listens 5 = .ok (.invokevirtual 148, 3) := by decide +kernel
theorem dX7_listens_8 : decode cX7_listens 8 = .ok (.aload_n 0, 1) := by decide +kernel
theorem dX7_listens_9 : decode cX7_listens 9 = .ok (.iload_n 1, 1) := by decide +kernel
theorem dX7_listens_10 : decode cX7_listens 10 = .ok (.iconst 1, 1) := by decide +kernel
theorem dX7_listens_11 : decode cX7_listens 11 = .ok (.aload_n 0, 1) := by decide +kernel
theorem dX7_listens_12 : decode cX7_listens 12 = .ok (.iload_n 1, 1) := by decide +kernel
theorem dX7_listens_13 : decode cX7_listens 13 = .ok (.iconst 2, 1) := by decide +kernel
theorem dX7_listens_14 : decode cX7_listens 14 = .ok (.invokevirtual 251, 3) := by decide +kernel
theorem dX7_listens_17 : decode cX7_listens 17 = .ok (.invokevirtual 264, 3) := by decide +kernel
theorem dX7_listens_20 : decode cX7_listens 20 = .ok (.return_, 1) := by decide +kernel
theorem dX7_waits_0 : decode cX7_waits 0 = .ok (.aload_n 0, 1) := by decide +kernel
theorem dX7_waits_1 : decode cX7_waits 1 = .ok (.aload_n 0, 1) := by decide +kernel
theorem dX7_waits_2 : decode cX7_waits 2 = .ok (.iload_n 1, 1) := by decide +kernel
theorem dX7_waits_3 : decode cX7_waits 3 = .ok (.invokevirtual 267, 3) := by decide +kernel
theorem dX7_waits_6 : decode cX7_waits 6 = .ok (.invokevirtual 270, 3) := by decide +kernel
theorem dX7_waits_9 : decode cX7_waits 9 = .ok (.istore_n 2, 1) := by decide +kernel
theorem dX7_waits_10 : decode cX7_waits 10 = .ok (.aload_n 0, 1) := by decide +kernel
theorem dX7_waits_11 : decode cX7_waits 11 = .ok (.iload_n 1, 1) := by decide +kernel
theorem dX7_waits_12 : decode cX7_waits 12 = .ok (.iconst 2, 1) := by decide +kernel
theorem dX7_waits_13 : decode cX7_waits 13 = .ok (.iload_n 2, 1) := by decide +kernel
theorem dX7_waits_14 : decode cX7_waits 14 = .ok (.iconst 1, 1) := by decide +kernel
theorem dX7_waits_15 : decode cX7_waits 15 = .ok (.iadd, 1) := by decide +kernel
theorem dX7_waits_16 : decode cX7_waits 16 = .ok (.invokevirtual 264, 3) := by decide +kernel
theorem dX7_waits_19 : decode cX7_waits 19 = .ok (.return_, 1) := by decide +kernel
theorem dX7_begins_0 : decode cX7_begins 0 = .ok (.aload_n 0, 1) := by decide +kernel
theorem dX7_begins_1 : decode cX7_begins 1 = .ok (.iload_n 1, 1) := by decide +kernel
theorem dX7_begins_2 : decode cX7_begins 2 = .ok (.iconst 3, 1) := by decide +kernel
theorem dX7_begins_3 : decode cX7_begins 3 = .ok (.aload_n 0, 1) := by decide +kernel
theorem dX7_begins_4 : decode cX7_begins 4 = .ok (.iload_n 1, 1) := by decide +kernel
theorem dX7_begins_5 : decode cX7_begins 5 = .ok (.iconst 3, 1) := by decide +kernel
theorem dX7_begins_6 : decode cX7_begins 6 = .ok (.invokevirtual 251, 3) := by decide +kernel
theorem dX7_begins_9 : decode cX7_begins 9 = .ok (.invokevirtual 264, 3) := by decide +kernel
theorem dX7_begins_12 : decode cX7_begins 12 = .ok (.aload_n 0, 1) := by decide +kernel
theorem dX7_begins_13 : decode cX7_begins 13 = .ok (.iload_n 1, 1) := by decide +kernel
theorem dX7_begins_14 : decode cX7_begins 14 = .ok (.bipush 9, 2) := by decide +kernel
theorem dX7_begins_16 : decode cX7_begins 16 = .ok (.sipush 255, 3) := by decide +kernel
theorem dX7_begins_19 : decode cX7_begins 19 = .ok (.iconst 1, 1) := by decide +kernel
theorem dX7_begins_20 : decode cX7_begins 20 = .ok (.iload_n 1, 1) := by decide +kernel
theorem dX7_begins_21 : decode cX7_begins 21 = .ok (.ishl, 1) := by decide +kernel
theorem dX7_begins_22 : decode cX7_begins 22 = .ok (.iconst (-1), 1) := by decide +kernel
theorem dX7_begins_23 : decode cX7_begins 23 = .ok (.ixor, 1) := by decide +kernel
theorem dX7_begins_24 : decode cX7_begins 24 = .ok (.iand, 1) := by decide +kernel
theorem dX7_begins_25 : decode cX7_begins 25 = .ok (.invokevirtual 148, 3) := by decide +kernel
theorem dX7_begins_28 : decode cX7_begins 28 = .ok (.iconst 0, 1) := by decide +kernel
theorem dX7_begins_29 : decode cX7_begins 29 = .ok (.istore_n 2, 1) := by decide +kernel
theorem dX7_begins_30 : decode cX7_begins 30 = .ok (.iload_n 2, 1) := by decide +kernel
theorem dX7_begins_31 : decode cX7_begins 31 = .ok (.bipush 8, 2) := by decide +kernel
theorem dX7_begins_33 : decode cX7_begins 33 = .ok (.if_icmp .ge 19, 3) := by decide +kernel
theorem dX7_begins_36 : decode cX7_begins 36 = .ok (.aload_n 0, 1) := by decide +kernel
theorem dX7_begins_37 : decode cX7_begins 37 = .ok (.iload_n 1, 1) := by decide +kernel
theorem dX7_begins_38 : decode cX7_begins 38 = .ok (.bipush 27, 2) := by decide +kernel
theorem dX7_begins_40 : decode cX7_begins 40 = .ok (.iload_n 2, 1) := by decide +kernel
theorem dX7_begins_41 : decode cX7_begins 41 = .ok (.iadd, 1) := by decide +kernel
theorem dX7_begins_42 : decode cX7_begins 42 = .ok (.iconst 0, 1) := by decide +kernel
theorem dX7_begins_43 : decode cX7_begins 43 = .ok (.invokevirtual 148, 3) := by decide +kernel
theorem dX7_begins_46 : decode cX7_begins 46 = .ok (.iinc 2 1, 3) := by decide +kernel
theorem dX7_begins_49 : decode cX7_begins 49 = .ok (.goto (-19), 3) := by decide +kernel
theorem dX7_begins_52 : decode cX7_begins 52 = .ok (.return_, 1) := by decide +kernel
theorem dX7_isThrough_0 : decode cX7_isThrough 0 = .ok (.aload_n 0, 1) := by decide +kernel
theorem dX7_isThrough_1 : decode cX7_isThrough 1 = .ok (.iload_n 1, 1) := by decide +kernel
theorem dX7_isThrough_2 : decode cX7_isThrough 2 = .ok (.bipush 6, 2) := by decide +kernel
theorem dX7_isThrough_4 : decode cX7_isThrough 4 = .ok (.iconst (-1), 1) := by decide +kernel
theorem dX7_isThrough_5 : decode cX7_isThrough 5 = .ok (.invokevirtual 273, 3) := by decide +kernel
theorem dX7_isThrough_8 : decode cX7_isThrough 8 = .ok (.aload_n 0, 1) := by decide +kernel
theorem dX7_isThrough_9 : decode cX7_isThrough 9 = .ok (.iload_n 1, 1) := by decide +kernel
theorem dX7_isThrough_10 : decode cX7_isThrough 10 = .ok (.bipush 6, 2) := by decide +kernel
theorem dX7_isThrough_12 : decode cX7_isThrough 12 = .ok (.invokevirtual 251, 3) := by decide +kernel
theorem dX7_isThrough_15 : decode cX7_isThrough 15 = .ok (.ifCond .ne 7, 3) := by decide +kernel
theorem dX7_isThrough_18 : decode cX7_isThrough 18 = .ok (.iconst 1, 1) := by decide +kernel
theorem dX7_isThrough_19 : decode cX7_isThrough 19 = .ok (.goto 4, 3) := by decide +kernel
theorem dX7_isThrough_22 : decode cX7_isThrough 22 = .ok (.iconst 0, 1) := by decide +kernel
theorem dX7_isThrough_23 : decode cX7_isThrough 23 = .ok (.ireturn, 1) := by decide +kernel
theorem dX7_wakes_0 : decode cX7_wakes 0 = .ok (.aload_n 0, 1) := by decide +kernel
theorem dX7_wakes_1 : decode cX7_wakes 1 = .ok (.iload_n 1, 1) := by decide +kernel
theorem dX7_wakes_2 : decode cX7_wakes 2 = .ok (.aload_n 0, 1) := by decide +kernel
theorem dX7_wakes_3 : decode cX7_wakes 3 = .ok (.getfield 20, 3) := by decide +kernel
theorem dX7_wakes_6 : decode cX7_wakes 6 = .ok (.iconst 1, 1) := by decide +kernel
theorem dX7_wakes_7 : decode cX7_wakes 7 = .ok (.iaload, 1) := by decide +kernel
theorem dX7_wakes_8 : decode cX7_wakes 8 = .ok (.invokevirtual 276, 3) := by decide +kernel
theorem dX7_wakes_11 : decode cX7_wakes 11 = .ok (.ifCond .ne 4, 3) := by decide +kernel
theorem dX7_wakes_14 : decode cX7_wakes 14 = .ok (.return_, 1) := by decide +kernel
theorem dX7_wakes_15 : decode cX7_wakes 15 = .ok (.aload_n 0, 1) := by decide +kernel
theorem dX7_wakes_16 : decode cX7_wakes 16 = .ok (.getfield 20, 3) := by decide +kernel
theorem dX7_wakes_19 : decode cX7_wakes 19 = .ok (.bipush 13, 2) := by decide +kernel
theorem dX7_wakes_21 : decode cX7_wakes 21 = .ok (.iload_n 1, 1) := by decide +kernel
theorem dX7_wakes_22 : decode cX7_wakes 22 = .ok (.iadd, 1) := by decide +kernel
theorem dX7_wakes_23 : decode cX7_wakes 23 = .ok (.iaload, 1) := by decide +kernel
theorem dX7_wakes_24 : decode cX7_wakes 24 = .ok (.ifCond .eq 25, 3) := by decide +kernel
theorem dX7_wakes_27 : decode cX7_wakes 27 = .ok (.aload_n 0, 1) := by decide +kernel
theorem dX7_wakes_28 : decode cX7_wakes 28 = .ok (.iload_n 1, 1) := by decide +kernel
theorem dX7_wakes_29 : decode cX7_wakes 29 = .ok (.bipush 8, 2) := by decide +kernel
theorem dX7_wakes_31 : decode cX7_wakes 31 = .ok (.invokevirtual 251, 3) := by decide +kernel
theorem dX7_wakes_34 : decode cX7_wakes 34 = .ok (.ifCond .ne 15, 3) := by decide +kernel
theorem dX7_wakes_37 : decode cX7_wakes 37 = .ok (.aload_n 0, 1) := by decide +kernel
theorem dX7_wakes_38 : decode cX7_wakes 38 = .ok (.iload_n 1, 1) := by decide +kernel
theorem dX7_wakes_39 : decode cX7_wakes 39 = .ok (.invokevirtual 279, 3) := by decide +kernel
theorem dX7_wakes_42 : decode cX7_wakes 42 = .ok (.ifCond .eq 7, 3) := by decide +kernel
theorem dX7_wakes_45 : decode cX7_wakes 45 = .ok (.iconst 1, 1) := by decide +kernel
theorem dX7_wakes_46 : decode cX7_wakes 46 = .ok (.goto 4, 3) := by decide +kernel
theorem dX7_wakes_49 : decode cX7_wakes 49 = .ok (.iconst 0, 1) := by decide +kernel
theorem dX7_wakes_50 : decode cX7_wakes 50 = .ok (.istore_n 2, 1) := by decide +kernel
theorem dX7_wakes_51 : decode cX7_wakes 51 = .ok (.iload_n 2, 1) := by decide +kernel
theorem dX7_wakes_52 : decode cX7_wakes 52 = .ok (.ifCond .eq 14, 3) := by decide +kernel
theorem dX7_wakes_55 : decode cX7_wakes 55 = .ok (.aload_n 0, 1) := by decide +kernel
theorem dX7_wakes_56 : decode cX7_wakes 56 = .ok (.iload_n 1, 1) := by decide +kernel
theorem dX7_wakes_57 : decode cX7_wakes 57 = .ok (.bipush 8, 2) := by decide +kernel
theorem dX7_wakes_59 : decode cX7_wakes 59 = .ok (.iconst 1, 1) := by decide +kernel
theorem dX7_wakes_60 : decode cX7_wakes 60 = .ok (.invokevirtual 148, 3) := by decide +kernel
theorem dX7_wakes_63 : decode cX7_wakes 63 = .ok (.goto 8, 3) := by decide +kernel
theorem dX7_wakes_66 : decode cX7_wakes 66 = .ok (.aload_n 0, 1) := by decide +kernel
theorem dX7_wakes_67 : decode cX7_wakes 67 = .ok (.iload_n 1, 1) := by decide +kernel
theorem dX7_wakes_68 : decode cX7_wakes 68 = .ok (.invokevirtual 282, 3) := by decide +kernel
theorem dX7_wakes_71 : decode cX7_wakes 71 = .ok (.return_, 1) := by decide +kernel
theorem dX7_changes_0 : decode cX7_changes 0 = .ok (.aload_n 0, 1) := by decide +kernel
theorem dX7_changes_1 : decode cX7_changes 1 = .ok (.iload_n 1, 1) := by decide +kernel
theorem dX7_changes_2 : decode cX7_changes 2 = .ok (.iconst 5, 1) := by decide +kernel
theorem dX7_changes_3 : decode cX7_changes 3 = .ok (.invokevirtual 251, 3) := by decide +kernel
theorem dX7_changes_6 : decode cX7_changes 6 = .ok (.istore_n 2, 1) := by decide +kernel
theorem dX7_changes_7 : decode cX7_changes 7 = .ok (.iload_n 2, 1) := by decide +kernel
theorem dX7_changes_8 : decode cX7_changes 8 = .ok (.ifCond .ne 11, 3) := by decide +kernel
theorem dX7_changes_11 : decode cX7_changes 11 = .ok (.aload_n 0, 1) := by decide +kernel
theorem dX7_changes_12 : decode cX7_changes 12 = .ok (.iload_n 1, 1) := by decide +kernel
theorem dX7_changes_13 : decode cX7_changes 13 = .ok (.invokevirtual 285, 3) := by decide +kernel
theorem dX7_changes_16 : decode cX7_changes 16 = .ok (.goto 62, 3) := by decide +kernel
theorem dX7_changes_19 : decode cX7_changes 19 = .ok (.iload_n 2, 1) := by decide +kernel
theorem dX7_changes_20 : decode cX7_changes 20 = .ok (.iconst 1, 1) := by decide +kernel
theorem dX7_changes_21 : decode cX7_changes 21 = .ok (.if_icmp .ne 19, 3) := by decide +kernel
theorem dX7_changes_24 : decode cX7_changes 24 = .ok (.aload_n 0, 1) := by decide +kernel
theorem dX7_changes_25 : decode cX7_changes 25 = .ok (.iload_n 1, 1) := by decide +kernel
theorem dX7_changes_26 : decode cX7_changes 26 = .ok (.invokevirtual 288, 3) := by decide +kernel
theorem dX7_changes_29 : decode cX7_changes 29 = .ok (.ifCond .eq 49, 3) := by decide +kernel
theorem dX7_changes_32 : decode cX7_changes 32 = .ok (.aload_n 0, 1) := by decide +kernel
theorem dX7_changes_33 : decode cX7_changes 33 = .ok (.iload_n 1, 1) := by decide +kernel
theorem dX7_changes_34 : decode cX7_changes 34 = .ok (.invokevirtual 291, 3) := by decide +kernel
theorem dX7_changes_37 : decode cX7_changes 37 = .ok (.goto 41, 3) := by decide +kernel
theorem dX7_changes_40 : decode cX7_changes 40 = .ok (.iload_n 2, 1) := by decide +kernel
theorem dX7_changes_41 : decode cX7_changes 41 = .ok (.iconst 2, 1) := by decide +kernel
theorem dX7_changes_42 : decode cX7_changes 42 = .ok (.if_icmp .ne 36, 3) := by decide +kernel
theorem dX7_changes_45 : decode cX7_changes 45 = .ok (.aload_n 0, 1) := by decide +kernel
theorem dX7_changes_46 : decode cX7_changes 46 = .ok (.getfield 20, 3) := by decide +kernel
theorem dX7_changes_49 : decode cX7_changes 49 = .ok (.bipush 13, 2) := by decide +kernel
theorem dX7_changes_51 : decode cX7_changes 51 = .ok (.iload_n 1, 1) := by decide +kernel
theorem dX7_changes_52 : decode cX7_changes 52 = .ok (.iadd, 1) := by decide +kernel
theorem dX7_changes_53 : decode cX7_changes 53 = .ok (.iaload, 1) := by decide +kernel
theorem dX7_changes_54 : decode cX7_changes 54 = .ok (.aload_n 0, 1) := by decide +kernel
theorem dX7_changes_55 : decode cX7_changes 55 = .ok (.getfield 20, 3) := by decide +kernel
theorem dX7_changes_58 : decode cX7_changes 58 = .ok (.bipush 12, 2) := by decide +kernel
theorem dX7_changes_60 : decode cX7_changes 60 = .ok (.iaload, 1) := by decide +kernel
theorem dX7_changes_61 : decode cX7_changes 61 = .ok (.iand, 1) := by decide +kernel
theorem dX7_changes_62 : decode cX7_changes 62 = .ok (.ifCond .ne 16, 3) := by decide +kernel
theorem dX7_changes_65 : decode cX7_changes 65 = .ok (.aload_n 0, 1) := by decide +kernel
theorem dX7_changes_66 : decode cX7_changes 66 = .ok (.iload_n 1, 1) := by decide +kernel
theorem dX7_changes_67 : decode cX7_changes 67 = .ok (.invokevirtual 288, 3) := by decide +kernel
theorem dX7_changes_70 : decode cX7_changes 70 = .ok (.ifCond .eq 8, 3) := by decide +kernel
theorem dX7_changes_73 : decode cX7_changes 73 = .ok (.aload_n 0, 1) := by decide +kernel
theorem dX7_changes_74 : decode cX7_changes 74 = .ok (.iload_n 1, 1) := by decide +kernel
theorem dX7_changes_75 : decode cX7_changes 75 = .ok (.invokevirtual 294, 3) := by decide +kernel
theorem dX7_changes_78 : decode cX7_changes 78 = .ok (.return_, 1) := by decide +kernel
theorem dX7_pays_0 : decode cX7_pays 0 = .ok (.aload_n 0, 1) := by decide +kernel
theorem dX7_pays_1 : decode cX7_pays 1 = .ok (.iload_n 1, 1) := by decide +kernel
theorem dX7_pays_2 : decode cX7_pays 2 = .ok (.iconst 5, 1) := by decide +kernel
theorem dX7_pays_3 : decode cX7_pays 3 = .ok (.invokevirtual 251, 3) := by decide +kernel
theorem dX7_pays_6 : decode cX7_pays 6 = .ok (.istore_n 2, 1) := by decide +kernel
theorem dX7_pays_7 : decode cX7_pays 7 = .ok (.aload_n 0, 1) := by decide +kernel
theorem dX7_pays_8 : decode cX7_pays 8 = .ok (.iload_n 1, 1) := by decide +kernel
theorem dX7_pays_9 : decode cX7_pays 9 = .ok (.iconst 4, 1) := by decide +kernel
theorem dX7_pays_10 : decode cX7_pays 10 = .ok (.invokevirtual 251, 3) := by decide +kernel
theorem dX7_pays_13 : decode cX7_pays 13 = .ok (.aload_n 0, 1) := by decide +kernel
theorem dX7_pays_14 : decode cX7_pays 14 = .ok (.getfield 20, 3) := by decide +kernel
theorem dX7_pays_17 : decode cX7_pays 17 = .ok (.bipush 8, 2) := by decide +kernel
theorem dX7_pays_19 : decode cX7_pays 19 = .ok (.iload_n 2, 1) := by decide +kernel
theorem dX7_pays_20 : decode cX7_pays 20 = .ok (.iadd, 1) := by decide +kernel
theorem dX7_pays_21 : decode cX7_pays 21 = .ok (.iaload, 1) := by decide +kernel
theorem dX7_pays_22 : decode cX7_pays 22 = .ok (.invokestatic 260, 3) := by decide +kernel
theorem dX7_pays_25 : decode cX7_pays 25 = .ok (.istore_n 3, 1) := by decide +kernel
theorem dX7_pays_26 : decode cX7_pays 26 = .ok (.aload_n 0, 1) := by decide +kernel
theorem dX7_pays_27 : decode cX7_pays 27 = .ok (.iload_n 1, 1) := by decide +kernel
theorem dX7_pays_28 : decode cX7_pays 28 = .ok (.iconst 4, 1) := by decide +kernel
theorem dX7_pays_29 : decode cX7_pays 29 = .ok (.iload_n 3, 1) := by decide +kernel
theorem dX7_pays_30 : decode cX7_pays 30 = .ok (.ineg, 1) := by decide +kernel
theorem dX7_pays_31 : decode cX7_pays 31 = .ok (.invokevirtual 273, 3) := by decide +kernel
theorem dX7_pays_34 : decode cX7_pays 34 = .ok (.aload_n 0, 1) := by decide +kernel
theorem dX7_pays_35 : decode cX7_pays 35 = .ok (.iload_n 1, 1) := by decide +kernel
theorem dX7_pays_36 : decode cX7_pays 36 = .ok (.bipush 13, 2) := by decide +kernel
theorem dX7_pays_38 : decode cX7_pays 38 = .ok (.iload_n 3, 1) := by decide +kernel
theorem dX7_pays_39 : decode cX7_pays 39 = .ok (.invokevirtual 273, 3) := by decide +kernel
theorem dX7_pays_42 : decode cX7_pays 42 = .ok (.aload_n 0, 1) := by decide +kernel
theorem dX7_pays_43 : decode cX7_pays 43 = .ok (.iload_n 1, 1) := by decide +kernel
theorem dX7_pays_44 : decode cX7_pays 44 = .ok (.bipush 14, 2) := by decide +kernel
theorem dX7_pays_46 : decode cX7_pays 46 = .ok (.iload_n 2, 1) := by decide +kernel
theorem dX7_pays_47 : decode cX7_pays 47 = .ok (.iadd, 1) := by decide +kernel
theorem dX7_pays_48 : decode cX7_pays 48 = .ok (.iconst 1, 1) := by decide +kernel
theorem dX7_pays_49 : decode cX7_pays 49 = .ok (.invokevirtual 273, 3) := by decide +kernel
theorem dX7_pays_52 : decode cX7_pays 52 = .ok (.aload_n 0, 1) := by decide +kernel
theorem dX7_pays_53 : decode cX7_pays 53 = .ok (.iload_n 1, 1) := by decide +kernel
theorem dX7_pays_54 : decode cX7_pays 54 = .ok (.iconst 4, 1) := by decide +kernel
theorem dX7_pays_55 : decode cX7_pays 55 = .ok (.invokevirtual 251, 3) := by decide +kernel
theorem dX7_pays_58 : decode cX7_pays 58 = .ok (.ifCond .ne 10, 3) := by decide +kernel
theorem dX7_pays_61 : decode cX7_pays 61 = .ok (.aload_n 0, 1) := by decide +kernel
theorem dX7_pays_62 : decode cX7_pays 62 = .ok (.iload_n 1, 1) := by decide +kernel
theorem dX7_pays_63 : decode cX7_pays 63 = .ok (.iconst 4, 1) := by decide +kernel
theorem dX7_pays_64 : decode cX7_pays 64 = .ok (.iconst 0, 1) := by decide +kernel
theorem dX7_pays_65 : decode cX7_pays 65 = .ok (.invokevirtual 264, 3) := by decide +kernel
theorem dX7_pays_68 : decode cX7_pays 68 = .ok (.return_, 1) := by decide +kernel
theorem dX7_senders_0 : decode cX7_senders 0 = .ok (.iconst 0, 1) := by decide +kernel
theorem dX7_senders_1 : decode cX7_senders 1 = .ok (.istore_n 1, 1) := by decide +kernel
theorem dX7_senders_2 : decode cX7_senders 2 = .ok (.iconst 0, 1) := by decide +kernel
theorem dX7_senders_3 : decode cX7_senders 3 = .ok (.istore_n 2, 1) := by decide +kernel
theorem dX7_senders_4 : decode cX7_senders 4 = .ok (.iload_n 2, 1) := by decide +kernel
theorem dX7_senders_5 : decode cX7_senders 5 = .ok (.aload_n 0, 1) := by decide +kernel
theorem dX7_senders_6 : decode cX7_senders 6 = .ok (.getfield 20, 3) := by decide +kernel
theorem dX7_senders_9 : decode cX7_senders 9 = .ok (.iconst 0, 1) := by decide +kernel
theorem dX7_senders_10 : decode cX7_senders 10 = .ok (.iaload, 1) := by decide +kernel
theorem dX7_senders_11 : decode cX7_senders 11 = .ok (.if_icmp .ge 28, 3) := by decide +kernel
theorem dX7_senders_14 : decode cX7_senders 14 = .ok (.iload_n 1, 1) := by decide +kernel
theorem dX7_senders_15 : decode cX7_senders 15 = .ok (.aload_n 0, 1) := by decide +kernel
theorem dX7_senders_16 : decode cX7_senders 16 = .ok (.iload_n 2, 1) := by decide +kernel
theorem dX7_senders_17 : decode cX7_senders 17 = .ok (.iconst 3, 1) := by decide +kernel
theorem dX7_senders_18 : decode cX7_senders 18 = .ok (.invokevirtual 297, 3) := by decide +kernel
theorem dX7_senders_21 : decode cX7_senders 21 = .ok (.ifCond .eq 9, 3) := by decide +kernel
theorem dX7_senders_24 : decode cX7_senders 24 = .ok (.iconst 1, 1) := by decide +kernel
theorem dX7_senders_25 : decode cX7_senders 25 = .ok (.iload_n 2, 1) := by decide +kernel
theorem dX7_senders_26 : decode cX7_senders 26 = .ok (.ishl, 1) := by decide +kernel
theorem dX7_senders_27 : decode cX7_senders 27 = .ok (.goto 4, 3) := by decide +kernel
theorem dX7_senders_30 : decode cX7_senders 30 = .ok (.iconst 0, 1) := by decide +kernel
theorem dX7_senders_31 : decode cX7_senders 31 = .ok (.ior, 1) := by decide +kernel
theorem dX7_senders_32 : decode cX7_senders 32 = .ok (.istore_n 1, 1) := by decide +kernel
theorem dX7_senders_33 : decode cX7_senders 33 = .ok (.iinc 2 1, 3) := by decide +kernel
theorem dX7_senders_36 : decode cX7_senders 36 = .ok (.goto (-32), 3) := by decide +kernel
theorem dX7_senders_39 : decode cX7_senders 39 = .ok (.iload_n 1, 1) := by decide +kernel
theorem dX7_senders_40 : decode cX7_senders 40 = .ok (.ireturn, 1) := by decide +kernel
theorem dX7_hasEars_0 : decode cX7_hasEars 0 = .ok (.aload_n 0, 1) := by decide +kernel
theorem dX7_hasEars_1 : decode cX7_hasEars 1 = .ok (.iload_n 1, 1) := by decide +kernel
theorem dX7_hasEars_2 : decode cX7_hasEars 2 = .ok (.iconst 1, 1) := by decide +kernel
theorem dX7_hasEars_3 : decode cX7_hasEars 3 = .ok (.invokevirtual 297, 3) := by decide +kernel
theorem dX7_hasEars_6 : decode cX7_hasEars 6 = .ok (.ifCond .ne 12, 3) := by decide +kernel
theorem dX7_hasEars_9 : decode cX7_hasEars 9 = .ok (.aload_n 0, 1) := by decide +kernel
theorem dX7_hasEars_10 : decode cX7_hasEars 10 = .ok (.iload_n 1, 1) := by decide +kernel
theorem dX7_hasEars_11 : decode cX7_hasEars 11 = .ok (.iconst 2, 1) := by decide +kernel
theorem dX7_hasEars_12 : decode cX7_hasEars 12 = .ok (.invokevirtual 297, 3) := by decide +kernel
theorem dX7_hasEars_15 : decode cX7_hasEars 15 = .ok (.ifCond .eq 7, 3) := by decide +kernel
theorem dX7_hasEars_18 : decode cX7_hasEars 18 = .ok (.iconst 1, 1) := by decide +kernel
theorem dX7_hasEars_19 : decode cX7_hasEars 19 = .ok (.goto 4, 3) := by decide +kernel
theorem dX7_hasEars_22 : decode cX7_hasEars 22 = .ok (.iconst 0, 1) := by decide +kernel
theorem dX7_hasEars_23 : decode cX7_hasEars 23 = .ok (.ireturn, 1) := by decide +kernel
theorem dX7_deafness_0 : decode cX7_deafness 0 = .ok (.aload_n 0, 1) := by decide +kernel
theorem dX7_deafness_1 : decode cX7_deafness 1 = .ok (.iload_n 1, 1) := by decide +kernel
theorem dX7_deafness_2 : decode cX7_deafness 2 = .ok (.iload_n 2, 1) := by decide +kernel
theorem dX7_deafness_3 : decode cX7_deafness 3 = .ok (.invokevirtual 208, 3) := by decide +kernel
theorem dX7_deafness_6 : decode cX7_deafness 6 = .ok (.ifCond .ne 5, 3) := by decide +kernel
theorem dX7_deafness_9 : decode cX7_deafness 9 = .ok (.iconst 1, 1) := by decide +kernel
theorem dX7_deafness_10 : decode cX7_deafness 10 = .ok (.ireturn, 1) := by decide +kernel
theorem dX7_deafness_11 : decode cX7_deafness 11 = .ok (.aload_n 0, 1) := by decide +kernel
theorem dX7_deafness_12 : decode cX7_deafness 12 = .ok (.iload_n 1, 1) := by decide +kernel
theorem dX7_deafness_13 : decode cX7_deafness 13 = .ok (.iconst 0, 1) := by decide +kernel
theorem dX7_deafness_14 : decode cX7_deafness 14 = .ok (.invokevirtual 297, 3) := by decide +kernel
theorem dX7_deafness_17 : decode cX7_deafness 17 = .ok (.ifCond .ne 12, 3) := by decide +kernel
theorem dX7_deafness_20 : decode cX7_deafness 20 = .ok (.aload_n 0, 1) := by decide +kernel
theorem dX7_deafness_21 : decode cX7_deafness 21 = .ok (.iload_n 1, 1) := by decide +kernel
theorem dX7_deafness_22 : decode cX7_deafness 22 = .ok (.iconst 4, 1) := by decide +kernel
theorem dX7_deafness_23 : decode cX7_deafness 23 = .ok (.invokevirtual 297, 3) := by decide +kernel
theorem dX7_deafness_26 : decode cX7_deafness 26 = .ok (.ifCond .eq 5, 3) := by decide +kernel
theorem dX7_deafness_29 : decode cX7_deafness 29 = .ok (.iconst 2, 1) := by decide +kernel
theorem dX7_deafness_30 : decode cX7_deafness 30 = .ok (.ireturn, 1) := by decide +kernel
theorem dX7_deafness_31 : decode cX7_deafness 31 = .ok (.aload_n 0, 1) := by decide +kernel
theorem dX7_deafness_32 : decode cX7_deafness 32 = .ok (.iload_n 1, 1) := by decide +kernel
theorem dX7_deafness_33 : decode cX7_deafness 33 = .ok (.iconst 3, 1) := by decide +kernel
theorem dX7_deafness_34 : decode cX7_deafness 34 = .ok (.invokevirtual 297, 3) := by decide +kernel
theorem dX7_deafness_37 : decode cX7_deafness 37 = .ok (.ifCond .eq 5, 3) := by decide +kernel
theorem dX7_deafness_40 : decode cX7_deafness 40 = .ok (.iconst 3, 1) := by decide +kernel
theorem dX7_deafness_41 : decode cX7_deafness 41 = .ok (.ireturn, 1) := by decide +kernel
theorem dX7_deafness_42 : decode cX7_deafness 42 = .ok (.aload_n 0, 1) := by decide +kernel
theorem dX7_deafness_43 : decode cX7_deafness 43 = .ok (.getfield 20, 3) := by decide +kernel
theorem dX7_deafness_46 : decode cX7_deafness 46 = .ok (.bipush 13, 2) := by decide +kernel
theorem dX7_deafness_48 : decode cX7_deafness 48 = .ok (.iload_n 1, 1) := by decide +kernel
theorem dX7_deafness_49 : decode cX7_deafness 49 = .ok (.iadd, 1) := by decide +kernel
theorem dX7_deafness_50 : decode cX7_deafness 50 = .ok (.iaload, 1) := by decide +kernel
theorem dX7_deafness_51 : decode cX7_deafness 51 = .ok (.iload_n 3, 1) := by decide +kernel
theorem dX7_deafness_52 : decode cX7_deafness 52 = .ok (.iand, 1) := by decide +kernel
theorem dX7_deafness_53 : decode cX7_deafness 53 = .ok (.invokestatic 300, 3) := by decide +kernel
theorem dX7_deafness_56 : decode cX7_deafness 56 = .ok (.iconst 1, 1) := by decide +kernel
theorem dX7_deafness_57 : decode cX7_deafness 57 = .ok (.if_icmp .le 7, 3) := by decide +kernel
theorem dX7_deafness_60 : decode cX7_deafness 60 = .ok (.iconst 4, 1) := by decide +kernel
theorem dX7_deafness_61 : decode cX7_deafness 61 = .ok (.goto 4, 3) := by decide +kernel
theorem dX7_deafness_64 : decode cX7_deafness 64 = .ok (.iconst 0, 1) := by decide +kernel
theorem dX7_deafness_65 : decode cX7_deafness 65 = .ok (.ireturn, 1) := by decide +kernel
theorem dX7_hears_0 : decode cX7_hears 0 = .ok (.iconst 0, 1) := by decide +kernel
theorem dX7_hears_1 : decode cX7_hears 1 = .ok (.istore_n 3, 1) := by decide +kernel
theorem dX7_hears_2 : decode cX7_hears 2 = .ok (.iload_n 3, 1) := by decide +kernel
theorem dX7_hears_3 : decode cX7_hears 3 = .ok (.aload_n 0, 1) := by decide +kernel
theorem dX7_hears_4 : decode cX7_hears 4 = .ok (.getfield 20, 3) := by decide +kernel
theorem dX7_hears_7 : decode cX7_hears 7 = .ok (.iconst 0, 1) := by decide +kernel
theorem dX7_hears_8 : decode cX7_hears 8 = .ok (.iaload, 1) := by decide +kernel
theorem dX7_hears_9 : decode cX7_hears 9 = .ok (.if_icmp .ge 78, 3) := by decide +kernel
theorem dX7_hears_12 : decode cX7_hears 12 = .ok (.iload_n 3, 1) := by decide +kernel
theorem dX7_hears_13 : decode cX7_hears 13 = .ok (.iload_n 1, 1) := by decide +kernel
theorem dX7_hears_14 : decode cX7_hears 14 = .ok (.if_icmp .ne 7, 3) := by decide +kernel
theorem dX7_hears_17 : decode cX7_hears 17 = .ok (.iconst 0, 1) := by decide +kernel
theorem dX7_hears_18 : decode cX7_hears 18 = .ok (.goto 10, 3) := by decide +kernel
theorem dX7_hears_21 : decode cX7_hears 21 = .ok (.aload_n 0, 1) := by decide +kernel
theorem dX7_hears_22 : decode cX7_hears 22 = .ok (.iload_n 3, 1) := by decide +kernel
theorem dX7_hears_23 : decode cX7_hears 23 = .ok (.iload_n 1, 1) := by decide +kernel
theorem dX7_hears_24 : decode cX7_hears 24 = .ok (.iload_n 2, 1) := by decide +kernel
theorem dX7_hears_25 : decode cX7_hears 25 = .ok (.invokevirtual 303, 3) := by decide +kernel
theorem dX7_hears_28 : decode cX7_hears 28 = .ok (.istore 4, 2) := by decide +kernel
theorem dX7_hears_30 : decode cX7_hears 30 = .ok (.iload 4, 2) := by decide +kernel
theorem dX7_hears_32 : decode cX7_hears 32 = .ok (.ifCond .ne 6, 3) := by decide +kernel
theorem dX7_hears_35 : decode cX7_hears 35 = .ok (.goto 46, 3) := by decide +kernel
theorem dX7_hears_38 : decode cX7_hears 38 = .ok (.aload_n 0, 1) := by decide +kernel
theorem dX7_hears_39 : decode cX7_hears 39 = .ok (.iload_n 1, 1) := by decide +kernel
theorem dX7_hears_40 : decode cX7_hears 40 = .ok (.bipush 9, 2) := by decide +kernel
theorem dX7_hears_42 : decode cX7_hears 42 = .ok (.aload_n 0, 1) := by decide +kernel
theorem dX7_hears_43 : decode cX7_hears 43 = .ok (.iload_n 1, 1) := by decide +kernel
theorem dX7_hears_44 : decode cX7_hears 44 = .ok (.bipush 9, 2) := by decide +kernel
theorem dX7_hears_46 : decode cX7_hears 46 = .ok (.invokevirtual 251, 3) := by decide +kernel
theorem dX7_hears_49 : decode cX7_hears 49 = .ok (.iconst 1, 1) := by decide +kernel
theorem dX7_hears_50 : decode cX7_hears 50 = .ok (.iload_n 3, 1) := by decide +kernel
theorem dX7_hears_51 : decode cX7_hears 51 = .ok (.ishl, 1) := by decide +kernel
theorem dX7_hears_52 : decode cX7_hears 52 = .ok (.iconst (-1), 1) := by decide +kernel
theorem dX7_hears_53 : decode cX7_hears 53 = .ok (.ixor, 1) := by decide +kernel
theorem dX7_hears_54 : decode cX7_hears 54 = .ok (.iand, 1) := by decide +kernel
theorem dX7_hears_55 : decode cX7_hears 55 = .ok (.invokevirtual 148, 3) := by decide +kernel
theorem dX7_hears_58 : decode cX7_hears 58 = .ok (.aload_n 0, 1) := by decide +kernel
theorem dX7_hears_59 : decode cX7_hears 59 = .ok (.iload_n 1, 1) := by decide +kernel
theorem dX7_hears_60 : decode cX7_hears 60 = .ok (.bipush 27, 2) := by decide +kernel
theorem dX7_hears_62 : decode cX7_hears 62 = .ok (.iload_n 3, 1) := by decide +kernel
theorem dX7_hears_63 : decode cX7_hears 63 = .ok (.iadd, 1) := by decide +kernel
theorem dX7_hears_64 : decode cX7_hears 64 = .ok (.invokevirtual 251, 3) := by decide +kernel
theorem dX7_hears_67 : decode cX7_hears 67 = .ok (.ifCond .ne 14, 3) := by decide +kernel
theorem dX7_hears_70 : decode cX7_hears 70 = .ok (.aload_n 0, 1) := by decide +kernel
theorem dX7_hears_71 : decode cX7_hears 71 = .ok (.iload_n 1, 1) := by decide +kernel
theorem dX7_hears_72 : decode cX7_hears 72 = .ok (.bipush 27, 2) := by decide +kernel
theorem dX7_hears_74 : decode cX7_hears 74 = .ok (.iload_n 3, 1) := by decide +kernel
theorem dX7_hears_75 : decode cX7_hears 75 = .ok (.iadd, 1) := by decide +kernel
theorem dX7_hears_76 : decode cX7_hears 76 = .ok (.iload 4, 2) := by decide +kernel
theorem dX7_hears_78 : decode cX7_hears 78 = .ok (.invokevirtual 148, 3) := by decide +kernel
theorem dX7_hears_81 : decode cX7_hears 81 = .ok (.iinc 3 1, 3) := by decide +kernel
theorem dX7_hears_84 : decode cX7_hears 84 = .ok (.goto (-82), 3) := by decide +kernel
theorem dX7_hears_87 : decode cX7_hears 87 = .ok (.return_, 1) := by decide +kernel
theorem dX7_collides_0 : decode cX7_collides 0 = .ok (.iconst 0, 1) := by decide +kernel
theorem dX7_collides_1 : decode cX7_collides 1 = .ok (.istore_n 2, 1) := by decide +kernel
theorem dX7_collides_2 : decode cX7_collides 2 = .ok (.iload_n 2, 1) := by decide +kernel
theorem dX7_collides_3 : decode cX7_collides 3 = .ok (.aload_n 0, 1) := by decide +kernel
theorem dX7_collides_4 : decode cX7_collides 4 = .ok (.getfield 20, 3) := by decide +kernel
theorem dX7_collides_7 : decode cX7_collides 7 = .ok (.iconst 0, 1) := by decide +kernel
theorem dX7_collides_8 : decode cX7_collides 8 = .ok (.iaload, 1) := by decide +kernel
theorem dX7_collides_9 : decode cX7_collides 9 = .ok (.if_icmp .ge 53, 3) := by decide +kernel
theorem dX7_collides_12 : decode cX7_collides 12 = .ok (.aload_n 0, 1) := by decide +kernel
theorem dX7_collides_13 : decode cX7_collides 13 = .ok (.getfield 20, 3) := by decide +kernel
theorem dX7_collides_16 : decode cX7_collides 16 = .ok (.bipush 6, 2) := by decide +kernel
theorem dX7_collides_18 : decode cX7_collides 18 = .ok (.dup2, 1) := by decide +kernel
theorem dX7_collides_19 : decode cX7_collides 19 = .ok (.iaload, 1) := by decide +kernel
theorem dX7_collides_20 : decode cX7_collides 20 = .ok (.aload_n 0, 1) := by decide +kernel
theorem dX7_collides_21 : decode cX7_collides 21 = .ok (.iload_n 2, 1) := by decide +kernel
theorem dX7_collides_22 : decode cX7_collides 22 = .ok (.invokevirtual 307, 3) := by decide +kernel
theorem dX7_collides_25 : decode cX7_collides 25 = .ok (.ifCond .eq 25, 3) := by decide +kernel
theorem dX7_collides_28 : decode cX7_collides 28 = .ok (.aload_n 0, 1) := by decide +kernel
theorem dX7_collides_29 : decode cX7_collides 29 = .ok (.getfield 20, 3) := by decide +kernel
theorem dX7_collides_32 : decode cX7_collides 32 = .ok (.bipush 13, 2) := by decide +kernel
theorem dX7_collides_34 : decode cX7_collides 34 = .ok (.iload_n 2, 1) := by decide +kernel
theorem dX7_collides_35 : decode cX7_collides 35 = .ok (.iadd, 1) := by decide +kernel
theorem dX7_collides_36 : decode cX7_collides 36 = .ok (.iaload, 1) := by decide +kernel
theorem dX7_collides_37 : decode cX7_collides 37 = .ok (.iload_n 1, 1) := by decide +kernel
theorem dX7_collides_38 : decode cX7_collides 38 = .ok (.iand, 1) := by decide +kernel
theorem dX7_collides_39 : decode cX7_collides 39 = .ok (.invokestatic 300, 3) := by decide +kernel
theorem dX7_collides_42 : decode cX7_collides 42 = .ok (.iconst 1, 1) := by decide +kernel
theorem dX7_collides_43 : decode cX7_collides 43 = .ok (.if_icmp .le 7, 3) := by decide +kernel
theorem dX7_collides_46 : decode cX7_collides 46 = .ok (.iconst 1, 1) := by decide +kernel
theorem dX7_collides_47 : decode cX7_collides 47 = .ok (.goto 4, 3) := by decide +kernel
theorem dX7_collides_50 : decode cX7_collides 50 = .ok (.iconst 0, 1) := by decide +kernel
theorem dX7_collides_51 : decode cX7_collides 51 = .ok (.invokestatic 69, 3) := by decide +kernel
theorem dX7_collides_54 : decode cX7_collides 54 = .ok (.iadd, 1) := by decide +kernel
theorem dX7_collides_55 : decode cX7_collides 55 = .ok (.iastore, 1) := by decide +kernel
theorem dX7_collides_56 : decode cX7_collides 56 = .ok (.iinc 2 1, 3) := by decide +kernel
theorem dX7_collides_59 : decode cX7_collides 59 = .ok (.goto (-57), 3) := by decide +kernel
theorem dX7_collides_62 : decode cX7_collides 62 = .ok (.return_, 1) := by decide +kernel
theorem dX7_earsOf_0 : decode cX7_earsOf 0 = .ok (.aload_n 0, 1) := by decide +kernel
theorem dX7_earsOf_1 : decode cX7_earsOf 1 = .ok (.iload_n 1, 1) := by decide +kernel
theorem dX7_earsOf_2 : decode cX7_earsOf 2 = .ok (.bipush 9, 2) := by decide +kernel
theorem dX7_earsOf_4 : decode cX7_earsOf 4 = .ok (.invokevirtual 251, 3) := by decide +kernel
theorem dX7_earsOf_7 : decode cX7_earsOf 7 = .ok (.iconst 1, 1) := by decide +kernel
theorem dX7_earsOf_8 : decode cX7_earsOf 8 = .ok (.aload_n 0, 1) := by decide +kernel
theorem dX7_earsOf_9 : decode cX7_earsOf 9 = .ok (.getfield 20, 3) := by decide +kernel
theorem dX7_earsOf_12 : decode cX7_earsOf 12 = .ok (.iconst 0, 1) := by decide +kernel
theorem dX7_earsOf_13 : decode cX7_earsOf 13 = .ok (.iaload, 1) := by decide +kernel
theorem dX7_earsOf_14 : decode cX7_earsOf 14 = .ok (.ishl, 1) := by decide +kernel
theorem dX7_earsOf_15 : decode cX7_earsOf 15 = .ok (.iconst 1, 1) := by decide +kernel
theorem dX7_earsOf_16 : decode cX7_earsOf 16 = .ok (.isub, 1) := by decide +kernel
theorem dX7_earsOf_17 : decode cX7_earsOf 17 = .ok (.iand, 1) := by decide +kernel
theorem dX7_earsOf_18 : decode cX7_earsOf 18 = .ok (.ireturn, 1) := by decide +kernel
theorem dX7_goesWell_0 : decode cX7_goesWell 0 = .ok (.iconst 0, 1) := by decide +kernel
theorem dX7_goesWell_1 : decode cX7_goesWell 1 = .ok (.istore_n 2, 1) := by decide +kernel
theorem dX7_goesWell_2 : decode cX7_goesWell 2 = .ok (.iload_n 2, 1) := by decide +kernel
theorem dX7_goesWell_3 : decode cX7_goesWell 3 = .ok (.aload_n 0, 1) := by decide +kernel
theorem dX7_goesWell_4 : decode cX7_goesWell 4 = .ok (.getfield 20, 3) := by decide +kernel
theorem dX7_goesWell_7 : decode cX7_goesWell 7 = .ok (.iconst 0, 1) := by decide +kernel
theorem dX7_goesWell_8 : decode cX7_goesWell 8 = .ok (.iaload, 1) := by decide +kernel
theorem dX7_goesWell_9 : decode cX7_goesWell 9 = .ok (.if_icmp .ge 36, 3) := by decide +kernel
theorem dX7_goesWell_12 : decode cX7_goesWell 12 = .ok (.aload_n 0, 1) := by decide +kernel
theorem dX7_goesWell_13 : decode cX7_goesWell 13 = .ok (.iload_n 1, 1) := by decide +kernel
theorem dX7_goesWell_14 : decode cX7_goesWell 14 = .ok (.invokevirtual 310, 3) := by decide +kernel
theorem dX7_goesWell_17 : decode cX7_goesWell 17 = .ok (.iload_n 2, 1) := by decide +kernel
theorem dX7_goesWell_18 : decode cX7_goesWell 18 = .ok (.invokestatic 180, 3) := by decide +kernel
theorem dX7_goesWell_21 : decode cX7_goesWell 21 = .ok (.ifCond .eq 18, 3) := by decide +kernel
theorem dX7_goesWell_24 : decode cX7_goesWell 24 = .ok (.aload_n 0, 1) := by decide +kernel
theorem dX7_goesWell_25 : decode cX7_goesWell 25 = .ok (.iload_n 2, 1) := by decide +kernel
theorem dX7_goesWell_26 : decode cX7_goesWell 26 = .ok (.bipush 19, 2) := by decide +kernel
theorem dX7_goesWell_28 : decode cX7_goesWell 28 = .ok (.iload_n 1, 1) := by decide +kernel
theorem dX7_goesWell_29 : decode cX7_goesWell 29 = .ok (.iadd, 1) := by decide +kernel
theorem dX7_goesWell_30 : decode cX7_goesWell 30 = .ok (.aload_n 0, 1) := by decide +kernel
theorem dX7_goesWell_31 : decode cX7_goesWell 31 = .ok (.getfield 20, 3) := by decide +kernel
theorem dX7_goesWell_34 : decode cX7_goesWell 34 = .ok (.iconst 1, 1) := by decide +kernel
theorem dX7_goesWell_35 : decode cX7_goesWell 35 = .ok (.iaload, 1) := by decide +kernel
theorem dX7_goesWell_36 : decode cX7_goesWell 36 = .ok (.invokevirtual 148, 3) := by decide +kernel
theorem dX7_goesWell_39 : decode cX7_goesWell 39 = .ok (.iinc 2 1, 3) := by decide +kernel
theorem dX7_goesWell_42 : decode cX7_goesWell 42 = .ok (.goto (-40), 3) := by decide +kernel
theorem dX7_goesWell_45 : decode cX7_goesWell 45 = .ok (.aload_n 0, 1) := by decide +kernel
theorem dX7_goesWell_46 : decode cX7_goesWell 46 = .ok (.iload_n 1, 1) := by decide +kernel
theorem dX7_goesWell_47 : decode cX7_goesWell 47 = .ok (.bipush 7, 2) := by decide +kernel
theorem dX7_goesWell_49 : decode cX7_goesWell 49 = .ok (.iconst 0, 1) := by decide +kernel
theorem dX7_goesWell_50 : decode cX7_goesWell 50 = .ok (.invokevirtual 148, 3) := by decide +kernel
theorem dX7_goesWell_53 : decode cX7_goesWell 53 = .ok (.aload_n 0, 1) := by decide +kernel
theorem dX7_goesWell_54 : decode cX7_goesWell 54 = .ok (.iload_n 1, 1) := by decide +kernel
theorem dX7_goesWell_55 : decode cX7_goesWell 55 = .ok (.bipush 11, 2) := by decide +kernel
theorem dX7_goesWell_57 : decode cX7_goesWell 57 = .ok (.iconst 1, 1) := by decide +kernel
theorem dX7_goesWell_58 : decode cX7_goesWell 58 = .ok (.invokevirtual 273, 3) := by decide +kernel
theorem dX7_goesWell_61 : decode cX7_goesWell 61 = .ok (.aload_n 0, 1) := by decide +kernel
theorem dX7_goesWell_62 : decode cX7_goesWell 62 = .ok (.getfield 20, 3) := by decide +kernel
theorem dX7_goesWell_65 : decode cX7_goesWell 65 = .ok (.iconst 4, 1) := by decide +kernel
theorem dX7_goesWell_66 : decode cX7_goesWell 66 = .ok (.dup2, 1) := by decide +kernel
theorem dX7_goesWell_67 : decode cX7_goesWell 67 = .ok (.iaload, 1) := by decide +kernel
theorem dX7_goesWell_68 : decode cX7_goesWell 68 = .ok (.iconst 1, 1) := by decide +kernel
theorem dX7_goesWell_69 : decode cX7_goesWell 69 = .ok (.iadd, 1) := by decide +kernel
theorem dX7_goesWell_70 : decode cX7_goesWell 70 = .ok (.iastore, 1) := by decide +kernel
theorem dX7_goesWell_71 : decode cX7_goesWell 71 = .ok (.aload_n 0, 1) := by decide +kernel
theorem dX7_goesWell_72 : decode cX7_goesWell 72 = .ok (.iload_n 1, 1) := by decide +kernel
theorem dX7_goesWell_73 : decode cX7_goesWell 73 = .ok (.iconst 0, 1) := by decide +kernel
theorem dX7_goesWell_74 : decode cX7_goesWell 74 = .ok (.iconst 0, 1) := by decide +kernel
theorem dX7_goesWell_75 : decode cX7_goesWell 75 = .ok (.invokevirtual 264, 3) := by decide +kernel
theorem dX7_goesWell_78 : decode cX7_goesWell 78 = .ok (.return_, 1) := by decide +kernel
theorem dX7_givesUp_0 : decode cX7_givesUp 0 = .ok (.aload_n 0, 1) := by decide +kernel
theorem dX7_givesUp_1 : decode cX7_givesUp 1 = .ok (.iload_n 1, 1) := by decide +kernel
theorem dX7_givesUp_2 : decode cX7_givesUp 2 = .ok (.bipush 7, 2) := by decide +kernel
theorem dX7_givesUp_4 : decode cX7_givesUp 4 = .ok (.iconst 0, 1) := by decide +kernel
theorem dX7_givesUp_5 : decode cX7_givesUp 5 = .ok (.invokevirtual 148, 3) := by decide +kernel
theorem dX7_givesUp_8 : decode cX7_givesUp 8 = .ok (.aload_n 0, 1) := by decide +kernel
theorem dX7_givesUp_9 : decode cX7_givesUp 9 = .ok (.iload_n 1, 1) := by decide +kernel
theorem dX7_givesUp_10 : decode cX7_givesUp 10 = .ok (.bipush 12, 2) := by decide +kernel
theorem dX7_givesUp_12 : decode cX7_givesUp 12 = .ok (.iconst 1, 1) := by decide +kernel
theorem dX7_givesUp_13 : decode cX7_givesUp 13 = .ok (.invokevirtual 273, 3) := by decide +kernel
theorem dX7_givesUp_16 : decode cX7_givesUp 16 = .ok (.aload_n 0, 1) := by decide +kernel
theorem dX7_givesUp_17 : decode cX7_givesUp 17 = .ok (.getfield 20, 3) := by decide +kernel
theorem dX7_givesUp_20 : decode cX7_givesUp 20 = .ok (.iconst 5, 1) := by decide +kernel
theorem dX7_givesUp_21 : decode cX7_givesUp 21 = .ok (.dup2, 1) := by decide +kernel
theorem dX7_givesUp_22 : decode cX7_givesUp 22 = .ok (.iaload, 1) := by decide +kernel
theorem dX7_givesUp_23 : decode cX7_givesUp 23 = .ok (.iconst 1, 1) := by decide +kernel
theorem dX7_givesUp_24 : decode cX7_givesUp 24 = .ok (.iadd, 1) := by decide +kernel
theorem dX7_givesUp_25 : decode cX7_givesUp 25 = .ok (.iastore, 1) := by decide +kernel
theorem dX7_givesUp_26 : decode cX7_givesUp 26 = .ok (.aload_n 0, 1) := by decide +kernel
theorem dX7_givesUp_27 : decode cX7_givesUp 27 = .ok (.iload_n 1, 1) := by decide +kernel
theorem dX7_givesUp_28 : decode cX7_givesUp 28 = .ok (.iconst 0, 1) := by decide +kernel
theorem dX7_givesUp_29 : decode cX7_givesUp 29 = .ok (.iconst 0, 1) := by decide +kernel
theorem dX7_givesUp_30 : decode cX7_givesUp 30 = .ok (.invokevirtual 264, 3) := by decide +kernel
theorem dX7_givesUp_33 : decode cX7_givesUp 33 = .ok (.return_, 1) := by decide +kernel
theorem dX7_ends_0 : decode cX7_ends 0 = .ok (.iconst 0, 1) := by decide +kernel
theorem dX7_ends_1 : decode cX7_ends 1 = .ok (.istore_n 2, 1) := by decide +kernel
theorem dX7_ends_2 : decode cX7_ends 2 = .ok (.iload_n 2, 1) := by decide +kernel
theorem dX7_ends_3 : decode cX7_ends 3 = .ok (.aload_n 0, 1) := by decide +kernel
theorem dX7_ends_4 : decode cX7_ends 4 = .ok (.getfield 20, 3) := by decide +kernel
theorem dX7_ends_7 : decode cX7_ends 7 = .ok (.iconst 0, 1) := by decide +kernel
theorem dX7_ends_8 : decode cX7_ends 8 = .ok (.iaload, 1) := by decide +kernel
theorem dX7_ends_9 : decode cX7_ends 9 = .ok (.if_icmp .ge 36, 3) := by decide +kernel
theorem dX7_ends_12 : decode cX7_ends 12 = .ok (.aload_n 0, 1) := by decide +kernel
theorem dX7_ends_13 : decode cX7_ends 13 = .ok (.iload_n 1, 1) := by decide +kernel
theorem dX7_ends_14 : decode cX7_ends 14 = .ok (.bipush 35, 2) := by decide +kernel
theorem dX7_ends_16 : decode cX7_ends 16 = .ok (.iload_n 2, 1) := by decide +kernel
theorem dX7_ends_17 : decode cX7_ends 17 = .ok (.iadd, 1) := by decide +kernel
theorem dX7_ends_18 : decode cX7_ends 18 = .ok (.iload_n 2, 1) := by decide +kernel
theorem dX7_ends_19 : decode cX7_ends 19 = .ok (.iload_n 1, 1) := by decide +kernel
theorem dX7_ends_20 : decode cX7_ends 20 = .ok (.if_icmp .ne 7, 3) := by decide +kernel
theorem dX7_ends_23 : decode cX7_ends 23 = .ok (.iconst 5, 1) := by decide +kernel
theorem dX7_ends_24 : decode cX7_ends 24 = .ok (.goto 12, 3) := by decide +kernel
theorem dX7_ends_27 : decode cX7_ends 27 = .ok (.aload_n 0, 1) := by decide +kernel
theorem dX7_ends_28 : decode cX7_ends 28 = .ok (.iload_n 1, 1) := by decide +kernel
theorem dX7_ends_29 : decode cX7_ends 29 = .ok (.bipush 27, 2) := by decide +kernel
theorem dX7_ends_31 : decode cX7_ends 31 = .ok (.iload_n 2, 1) := by decide +kernel
theorem dX7_ends_32 : decode cX7_ends 32 = .ok (.iadd, 1) := by decide +kernel
theorem dX7_ends_33 : decode cX7_ends 33 = .ok (.invokevirtual 251, 3) := by decide +kernel
theorem dX7_ends_36 : decode cX7_ends 36 = .ok (.invokevirtual 148, 3) := by decide +kernel
theorem dX7_ends_39 : decode cX7_ends 39 = .ok (.iinc 2 1, 3) := by decide +kernel
theorem dX7_ends_42 : decode cX7_ends 42 = .ok (.goto (-40), 3) := by decide +kernel
theorem dX7_ends_45 : decode cX7_ends 45 = .ok (.aload_n 0, 1) := by decide +kernel
theorem dX7_ends_46 : decode cX7_ends 46 = .ok (.iload_n 1, 1) := by decide +kernel
theorem dX7_ends_47 : decode cX7_ends 47 = .ok (.invokevirtual 310, 3) := by decide +kernel
theorem dX7_ends_50 : decode cX7_ends 50 = .ok (.ifCond .eq 9, 3) := by decide +kernel
theorem dX7_ends_53 : decode cX7_ends 53 = .ok (.aload_n 0, 1) := by decide +kernel
theorem dX7_ends_54 : decode cX7_ends 54 = .ok (.iload_n 1, 1) := by decide +kernel
theorem dX7_ends_55 : decode cX7_ends 55 = .ok (.invokevirtual 313, 3) := by decide +kernel
theorem dX7_ends_58 : decode cX7_ends 58 = .ok (.return_, 1) := by decide +kernel
theorem dX7_ends_59 : decode cX7_ends 59 = .ok (.aload_n 0, 1) := by decide +kernel
theorem dX7_ends_60 : decode cX7_ends 60 = .ok (.iload_n 1, 1) := by decide +kernel
theorem dX7_ends_61 : decode cX7_ends 61 = .ok (.bipush 7, 2) := by decide +kernel
theorem dX7_ends_63 : decode cX7_ends 63 = .ok (.iconst 1, 1) := by decide +kernel
theorem dX7_ends_64 : decode cX7_ends 64 = .ok (.invokevirtual 273, 3) := by decide +kernel
theorem dX7_ends_67 : decode cX7_ends 67 = .ok (.aload_n 0, 1) := by decide +kernel
theorem dX7_ends_68 : decode cX7_ends 68 = .ok (.iload_n 1, 1) := by decide +kernel
theorem dX7_ends_69 : decode cX7_ends 69 = .ok (.bipush 7, 2) := by decide +kernel
theorem dX7_ends_71 : decode cX7_ends 71 = .ok (.invokevirtual 251, 3) := by decide +kernel
theorem dX7_ends_74 : decode cX7_ends 74 = .ok (.aload_n 0, 1) := by decide +kernel
theorem dX7_ends_75 : decode cX7_ends 75 = .ok (.getfield 20, 3) := by decide +kernel
theorem dX7_ends_78 : decode cX7_ends 78 = .ok (.iconst 2, 1) := by decide +kernel
theorem dX7_ends_79 : decode cX7_ends 79 = .ok (.iaload, 1) := by decide +kernel
theorem dX7_ends_80 : decode cX7_ends 80 = .ok (.if_icmp .lt 11, 3) := by decide +kernel
theorem dX7_ends_83 : decode cX7_ends 83 = .ok (.aload_n 0, 1) := by decide +kernel
theorem dX7_ends_84 : decode cX7_ends 84 = .ok (.iload_n 1, 1) := by decide +kernel
theorem dX7_ends_85 : decode cX7_ends 85 = .ok (.invokevirtual 316, 3) := by decide +kernel
theorem dX7_ends_88 : decode cX7_ends 88 = .ok (.goto 8, 3) := by decide +kernel
theorem dX7_ends_91 : decode cX7_ends 91 = .ok (.aload_n 0, 1) := by decide +kernel
theorem dX7_ends_92 : decode cX7_ends 92 = .ok (.iload_n 1, 1) := by decide +kernel
theorem dX7_ends_93 : decode cX7_ends 93 = .ok (.invokevirtual 291, 3) := by decide +kernel
theorem dX7_ends_96 : decode cX7_ends 96 = .ok (.return_, 1) := by decide +kernel
theorem dX7_slot_0 : decode cX7_slot 0 = .ok (.aload_n 0, 1) := by decide +kernel
theorem dX7_slot_1 : decode cX7_slot 1 = .ok (.getfield 20, 3) := by decide +kernel
theorem dX7_slot_4 : decode cX7_slot 4 = .ok (.iconst 1, 1) := by decide +kernel
theorem dX7_slot_5 : decode cX7_slot 5 = .ok (.dup2, 1) := by decide +kernel
theorem dX7_slot_6 : decode cX7_slot 6 = .ok (.iaload, 1) := by decide +kernel
theorem dX7_slot_7 : decode cX7_slot 7 = .ok (.iconst 1, 1) := by decide +kernel
theorem dX7_slot_8 : decode cX7_slot 8 = .ok (.iadd, 1) := by decide +kernel
theorem dX7_slot_9 : decode cX7_slot 9 = .ok (.iastore, 1) := by decide +kernel
theorem dX7_slot_10 : decode cX7_slot 10 = .ok (.iconst 0, 1) := by decide +kernel
theorem dX7_slot_11 : decode cX7_slot 11 = .ok (.istore_n 1, 1) := by decide +kernel
theorem dX7_slot_12 : decode cX7_slot 12 = .ok (.iload_n 1, 1) := by decide +kernel
theorem dX7_slot_13 : decode cX7_slot 13 = .ok (.aload_n 0, 1) := by decide +kernel
theorem dX7_slot_14 : decode cX7_slot 14 = .ok (.getfield 20, 3) := by decide +kernel
theorem dX7_slot_17 : decode cX7_slot 17 = .ok (.iconst 0, 1) := by decide +kernel
theorem dX7_slot_18 : decode cX7_slot 18 = .ok (.iaload, 1) := by decide +kernel
theorem dX7_slot_19 : decode cX7_slot 19 = .ok (.if_icmp .ge 23, 3) := by decide +kernel
theorem dX7_slot_22 : decode cX7_slot 22 = .ok (.aload_n 0, 1) := by decide +kernel
theorem dX7_slot_23 : decode cX7_slot 23 = .ok (.iload_n 1, 1) := by decide +kernel
theorem dX7_slot_24 : decode cX7_slot 24 = .ok (.iconst 4, 1) := by decide +kernel
theorem dX7_slot_25 : decode cX7_slot 25 = .ok (.invokevirtual 297, 3) := by decide +kernel
theorem dX7_slot_28 : decode cX7_slot 28 = .ok (.ifCond .ne 8, 3) := by decide +kernel
theorem dX7_slot_31 : decode cX7_slot 31 = .ok (.aload_n 0, 1) := by decide +kernel
theorem dX7_slot_32 : decode cX7_slot 32 = .ok (.iload_n 1, 1) := by decide +kernel
theorem dX7_slot_33 : decode cX7_slot 33 = .ok (.invokevirtual 319, 3) := by decide +kernel
theorem dX7_slot_36 : decode cX7_slot 36 = .ok (.iinc 1 1, 3) := by decide +kernel
theorem dX7_slot_39 : decode cX7_slot 39 = .ok (.goto (-27), 3) := by decide +kernel
theorem dX7_slot_42 : decode cX7_slot 42 = .ok (.iconst 0, 1) := by decide +kernel
theorem dX7_slot_43 : decode cX7_slot 43 = .ok (.istore_n 1, 1) := by decide +kernel
theorem dX7_slot_44 : decode cX7_slot 44 = .ok (.iload_n 1, 1) := by decide +kernel
theorem dX7_slot_45 : decode cX7_slot 45 = .ok (.aload_n 0, 1) := by decide +kernel
theorem dX7_slot_46 : decode cX7_slot 46 = .ok (.getfield 20, 3) := by decide +kernel
theorem dX7_slot_49 : decode cX7_slot 49 = .ok (.iconst 0, 1) := by decide +kernel
theorem dX7_slot_50 : decode cX7_slot 50 = .ok (.iaload, 1) := by decide +kernel
theorem dX7_slot_51 : decode cX7_slot 51 = .ok (.if_icmp .ge 23, 3) := by decide +kernel
theorem dX7_slot_54 : decode cX7_slot 54 = .ok (.aload_n 0, 1) := by decide +kernel
theorem dX7_slot_55 : decode cX7_slot 55 = .ok (.iload_n 1, 1) := by decide +kernel
theorem dX7_slot_56 : decode cX7_slot 56 = .ok (.iconst 4, 1) := by decide +kernel
theorem dX7_slot_57 : decode cX7_slot 57 = .ok (.invokevirtual 297, 3) := by decide +kernel
theorem dX7_slot_60 : decode cX7_slot 60 = .ok (.ifCond .ne 8, 3) := by decide +kernel
theorem dX7_slot_63 : decode cX7_slot 63 = .ok (.aload_n 0, 1) := by decide +kernel
theorem dX7_slot_64 : decode cX7_slot 64 = .ok (.iload_n 1, 1) := by decide +kernel
theorem dX7_slot_65 : decode cX7_slot 65 = .ok (.invokevirtual 322, 3) := by decide +kernel
theorem dX7_slot_68 : decode cX7_slot 68 = .ok (.iinc 1 1, 3) := by decide +kernel
theorem dX7_slot_71 : decode cX7_slot 71 = .ok (.goto (-27), 3) := by decide +kernel
theorem dX7_slot_74 : decode cX7_slot 74 = .ok (.aload_n 0, 1) := by decide +kernel
theorem dX7_slot_75 : decode cX7_slot 75 = .ok (.invokevirtual 325, 3) := by decide +kernel
theorem dX7_slot_78 : decode cX7_slot 78 = .ok (.istore_n 1, 1) := by decide +kernel
theorem dX7_slot_79 : decode cX7_slot 79 = .ok (.aload_n 0, 1) := by decide +kernel
theorem dX7_slot_80 : decode cX7_slot 80 = .ok (.iload_n 1, 1) := by decide +kernel
theorem dX7_slot_81 : decode cX7_slot 81 = .ok (.invokevirtual 328, 3) := by decide +kernel
theorem dX7_slot_84 : decode cX7_slot 84 = .ok (.iconst 0, 1) := by decide +kernel
theorem dX7_slot_85 : decode cX7_slot 85 = .ok (.istore_n 2, 1) := by decide +kernel
theorem dX7_slot_86 : decode cX7_slot 86 = .ok (.iload_n 2, 1) := by decide +kernel
theorem dX7_slot_87 : decode cX7_slot 87 = .ok (.aload_n 0, 1) := by decide +kernel
theorem dX7_slot_88 : decode cX7_slot 88 = .ok (.getfield 20, 3) := by decide +kernel
theorem dX7_slot_91 : decode cX7_slot 91 = .ok (.iconst 0, 1) := by decide +kernel
theorem dX7_slot_92 : decode cX7_slot 92 = .ok (.iaload, 1) := by decide +kernel
theorem dX7_slot_93 : decode cX7_slot 93 = .ok (.if_icmp .ge 23, 3) := by decide +kernel
theorem dX7_slot_96 : decode cX7_slot 96 = .ok (.iload_n 1, 1) := by decide +kernel
theorem dX7_slot_97 : decode cX7_slot 97 = .ok (.iload_n 2, 1) := by decide +kernel
theorem dX7_slot_98 : decode cX7_slot 98 = .ok (.invokestatic 180, 3) := by decide +kernel
theorem dX7_slot_101 : decode cX7_slot 101 = .ok (.ifCond .eq 9, 3) := by decide +kernel
theorem dX7_slot_104 : decode cX7_slot 104 = .ok (.aload_n 0, 1) := by decide +kernel
theorem dX7_slot_105 : decode cX7_slot 105 = .ok (.iload_n 2, 1) := by decide +kernel
theorem dX7_slot_106 : decode cX7_slot 106 = .ok (.iload_n 1, 1) := by decide +kernel
theorem dX7_slot_107 : decode cX7_slot 107 = .ok (.invokevirtual 331, 3) := by decide +kernel
theorem dX7_slot_110 : decode cX7_slot 110 = .ok (.iinc 2 1, 3) := by decide +kernel
theorem dX7_slot_113 : decode cX7_slot 113 = .ok (.goto (-27), 3) := by decide +kernel
theorem dX7_slot_116 : decode cX7_slot 116 = .ok (.aload_n 0, 1) := by decide +kernel
theorem dX7_slot_117 : decode cX7_slot 117 = .ok (.getfield 20, 3) := by decide +kernel
theorem dX7_slot_120 : decode cX7_slot 120 = .ok (.bipush 12, 2) := by decide +kernel
theorem dX7_slot_122 : decode cX7_slot 122 = .ok (.iload_n 1, 1) := by decide +kernel
theorem dX7_slot_123 : decode cX7_slot 123 = .ok (.iastore, 1) := by decide +kernel
theorem dX7_slot_124 : decode cX7_slot 124 = .ok (.iconst 0, 1) := by decide +kernel
theorem dX7_slot_125 : decode cX7_slot 125 = .ok (.istore_n 2, 1) := by decide +kernel
theorem dX7_slot_126 : decode cX7_slot 126 = .ok (.iload_n 2, 1) := by decide +kernel
theorem dX7_slot_127 : decode cX7_slot 127 = .ok (.aload_n 0, 1) := by decide +kernel
theorem dX7_slot_128 : decode cX7_slot 128 = .ok (.getfield 20, 3) := by decide +kernel
theorem dX7_slot_131 : decode cX7_slot 131 = .ok (.iconst 0, 1) := by decide +kernel
theorem dX7_slot_132 : decode cX7_slot 132 = .ok (.iaload, 1) := by decide +kernel
theorem dX7_slot_133 : decode cX7_slot 133 = .ok (.if_icmp .ge 30, 3) := by decide +kernel
theorem dX7_slot_136 : decode cX7_slot 136 = .ok (.iload_n 1, 1) := by decide +kernel
theorem dX7_slot_137 : decode cX7_slot 137 = .ok (.iload_n 2, 1) := by decide +kernel
theorem dX7_slot_138 : decode cX7_slot 138 = .ok (.invokestatic 180, 3) := by decide +kernel
theorem dX7_slot_141 : decode cX7_slot 141 = .ok (.ifCond .eq 16, 3) := by decide +kernel
theorem dX7_slot_144 : decode cX7_slot 144 = .ok (.aload_n 0, 1) := by decide +kernel
theorem dX7_slot_145 : decode cX7_slot 145 = .ok (.iload_n 2, 1) := by decide +kernel
theorem dX7_slot_146 : decode cX7_slot 146 = .ok (.invokevirtual 288, 3) := by decide +kernel
theorem dX7_slot_149 : decode cX7_slot 149 = .ok (.ifCond .eq 8, 3) := by decide +kernel
theorem dX7_slot_152 : decode cX7_slot 152 = .ok (.aload_n 0, 1) := by decide +kernel
theorem dX7_slot_153 : decode cX7_slot 153 = .ok (.iload_n 2, 1) := by decide +kernel
theorem dX7_slot_154 : decode cX7_slot 154 = .ok (.invokevirtual 335, 3) := by decide +kernel
theorem dX7_slot_157 : decode cX7_slot 157 = .ok (.iinc 2 1, 3) := by decide +kernel
theorem dX7_slot_160 : decode cX7_slot 160 = .ok (.goto (-34), 3) := by decide +kernel
theorem dX7_slot_163 : decode cX7_slot 163 = .ok (.return_, 1) := by decide +kernel
theorem dX7_runs_0 : decode cX7_runs 0 = .ok (.aload_n 0, 1) := by decide +kernel
theorem dX7_runs_1 : decode cX7_runs 1 = .ok (.getfield 20, 3) := by decide +kernel
theorem dX7_runs_4 : decode cX7_runs 4 = .ok (.iconst 4, 1) := by decide +kernel
theorem dX7_runs_5 : decode cX7_runs 5 = .ok (.iaload, 1) := by decide +kernel
theorem dX7_runs_6 : decode cX7_runs 6 = .ok (.istore_n 2, 1) := by decide +kernel
theorem dX7_runs_7 : decode cX7_runs 7 = .ok (.iconst 0, 1) := by decide +kernel
theorem dX7_runs_8 : decode cX7_runs 8 = .ok (.istore_n 3, 1) := by decide +kernel
theorem dX7_runs_9 : decode cX7_runs 9 = .ok (.iload_n 3, 1) := by decide +kernel
theorem dX7_runs_10 : decode cX7_runs 10 = .ok (.iload_n 1, 1) := by decide +kernel
theorem dX7_runs_11 : decode cX7_runs 11 = .ok (.if_icmp .ge 13, 3) := by decide +kernel
theorem dX7_runs_14 : decode cX7_runs 14 = .ok (.aload_n 0, 1) := by decide +kernel
theorem dX7_runs_15 : decode cX7_runs 15 = .ok (.invokevirtual 338, 3) := by decide +kernel
theorem dX7_runs_18 : decode cX7_runs 18 = .ok (.iinc 3 1, 3) := by decide +kernel
theorem dX7_runs_21 : decode cX7_runs 21 = .ok (.goto (-12), 3) := by decide +kernel
theorem dX7_runs_24 : decode cX7_runs 24 = .ok (.aload_n 0, 1) := by decide +kernel
theorem dX7_runs_25 : decode cX7_runs 25 = .ok (.getfield 20, 3) := by decide +kernel
theorem dX7_runs_28 : decode cX7_runs 28 = .ok (.iconst 4, 1) := by decide +kernel
theorem dX7_runs_29 : decode cX7_runs 29 = .ok (.iaload, 1) := by decide +kernel
theorem dX7_runs_30 : decode cX7_runs 30 = .ok (.iload_n 2, 1) := by decide +kernel
theorem dX7_runs_31 : decode cX7_runs 31 = .ok (.isub, 1) := by decide +kernel
theorem dX7_runs_32 : decode cX7_runs 32 = .ok (.ireturn, 1) := by decide +kernel
theorem dX7_isBeacon_0 : decode cX7_isBeacon 0 = .ok (.iload_n 1, 1) := by decide +kernel
theorem dX7_isBeacon_1 : decode cX7_isBeacon 1 = .ok (.i2l, 1) := by decide +kernel
theorem dX7_isBeacon_2 : decode cX7_isBeacon 2 = .ok (.lconst 0, 1) := by decide +kernel
theorem dX7_isBeacon_3 : decode cX7_isBeacon 3 = .ok (.aload_n 0, 1) := by decide +kernel
theorem dX7_isBeacon_4 : decode cX7_isBeacon 4 = .ok (.getfield 20, 3) := by decide +kernel
theorem dX7_isBeacon_7 : decode cX7_isBeacon 7 = .ok (.iconst 0, 1) := by decide +kernel
theorem dX7_isBeacon_8 : decode cX7_isBeacon 8 = .ok (.iaload, 1) := by decide +kernel
theorem dX7_isBeacon_9 : decode cX7_isBeacon 9 = .ok (.iconst 1, 1) := by decide +kernel
theorem dX7_isBeacon_10 : decode cX7_isBeacon 10 = .ok (.isub, 1) := by decide +kernel
theorem dX7_isBeacon_11 : decode cX7_isBeacon 11 = .ok (.i2l, 1) := by decide +kernel
theorem dX7_isBeacon_12 : decode cX7_isBeacon 12 = .ok (.invokestatic 84, 3) := by decide +kernel
theorem dX7_isBeacon_15 : decode cX7_isBeacon 15 = .ok (.ireturn, 1) := by decide +kernel
theorem dX7_areBeacons_0 : decode cX7_areBeacons 0 = .ok (.aload_n 0, 1) := by decide +kernel
theorem dX7_areBeacons_1 : decode cX7_areBeacons 1 = .ok (.iload_n 1, 1) := by decide +kernel
theorem dX7_areBeacons_2 : decode cX7_areBeacons 2 = .ok (.invokevirtual 341, 3) := by decide +kernel
theorem dX7_areBeacons_5 : decode cX7_areBeacons 5 = .ok (.ifCond .eq 15, 3) := by decide +kernel
theorem dX7_areBeacons_8 : decode cX7_areBeacons 8 = .ok (.aload_n 0, 1) := by decide +kernel
theorem dX7_areBeacons_9 : decode cX7_areBeacons 9 = .ok (.iload_n 2, 1) := by decide +kernel
theorem dX7_areBeacons_10 : decode cX7_areBeacons 10 = .ok (.invokevirtual 341, 3) := by decide +kernel
theorem dX7_areBeacons_13 : decode cX7_areBeacons 13 = .ok (.ifCond .eq 7, 3) := by decide +kernel
theorem dX7_areBeacons_16 : decode cX7_areBeacons 16 = .ok (.iconst 1, 1) := by decide +kernel
theorem dX7_areBeacons_17 : decode cX7_areBeacons 17 = .ok (.goto 4, 3) := by decide +kernel
theorem dX7_areBeacons_20 : decode cX7_areBeacons 20 = .ok (.iconst 0, 1) := by decide +kernel
theorem dX7_areBeacons_21 : decode cX7_areBeacons 21 = .ok (.ireturn, 1) := by decide +kernel
theorem dX7_pairs_0 : decode cX7_pairs 0 = .ok (.iconst 0, 1) := by decide +kernel
theorem dX7_pairs_1 : decode cX7_pairs 1 = .ok (.istore_n 1, 1) := by decide +kernel
theorem dX7_pairs_2 : decode cX7_pairs 2 = .ok (.iconst 0, 1) := by decide +kernel
theorem dX7_pairs_3 : decode cX7_pairs 3 = .ok (.istore_n 2, 1) := by decide +kernel
theorem dX7_pairs_4 : decode cX7_pairs 4 = .ok (.iload_n 2, 1) := by decide +kernel
theorem dX7_pairs_5 : decode cX7_pairs 5 = .ok (.aload_n 0, 1) := by decide +kernel
theorem dX7_pairs_6 : decode cX7_pairs 6 = .ok (.getfield 20, 3) := by decide +kernel
theorem dX7_pairs_9 : decode cX7_pairs 9 = .ok (.iconst 0, 1) := by decide +kernel
theorem dX7_pairs_10 : decode cX7_pairs 10 = .ok (.iaload, 1) := by decide +kernel
theorem dX7_pairs_11 : decode cX7_pairs 11 = .ok (.if_icmp .ge 24, 3) := by decide +kernel
theorem dX7_pairs_14 : decode cX7_pairs 14 = .ok (.iload_n 1, 1) := by decide +kernel
theorem dX7_pairs_15 : decode cX7_pairs 15 = .ok (.aload_n 0, 1) := by decide +kernel
theorem dX7_pairs_16 : decode cX7_pairs 16 = .ok (.getfield 20, 3) := by decide +kernel
theorem dX7_pairs_19 : decode cX7_pairs 19 = .ok (.bipush 13, 2) := by decide +kernel
theorem dX7_pairs_21 : decode cX7_pairs 21 = .ok (.iload_n 2, 1) := by decide +kernel
theorem dX7_pairs_22 : decode cX7_pairs 22 = .ok (.iadd, 1) := by decide +kernel
theorem dX7_pairs_23 : decode cX7_pairs 23 = .ok (.iaload, 1) := by decide +kernel
theorem dX7_pairs_24 : decode cX7_pairs 24 = .ok (.invokestatic 300, 3) := by decide +kernel
theorem dX7_pairs_27 : decode cX7_pairs 27 = .ok (.iadd, 1) := by decide +kernel
theorem dX7_pairs_28 : decode cX7_pairs 28 = .ok (.istore_n 1, 1) := by decide +kernel
theorem dX7_pairs_29 : decode cX7_pairs 29 = .ok (.iinc 2 1, 3) := by decide +kernel
theorem dX7_pairs_32 : decode cX7_pairs 32 = .ok (.goto (-28), 3) := by decide +kernel
theorem dX7_pairs_35 : decode cX7_pairs 35 = .ok (.iload_n 1, 1) := by decide +kernel
theorem dX7_pairs_36 : decode cX7_pairs 36 = .ok (.ireturn, 1) := by decide +kernel
theorem dX7_outMany_0 : decode cX7_outMany 0 = .ok (.iconst 0, 1) := by decide +kernel
theorem dX7_outMany_1 : decode cX7_outMany 1 = .ok (.istore_n 1, 1) := by decide +kernel
theorem dX7_outMany_2 : decode cX7_outMany 2 = .ok (.iconst 0, 1) := by decide +kernel
theorem dX7_outMany_3 : decode cX7_outMany 3 = .ok (.istore_n 2, 1) := by decide +kernel
theorem dX7_outMany_4 : decode cX7_outMany 4 = .ok (.iload_n 2, 1) := by decide +kernel
theorem dX7_outMany_5 : decode cX7_outMany 5 = .ok (.aload_n 0, 1) := by decide +kernel
theorem dX7_outMany_6 : decode cX7_outMany 6 = .ok (.getfield 20, 3) := by decide +kernel
theorem dX7_outMany_9 : decode cX7_outMany 9 = .ok (.iconst 0, 1) := by decide +kernel
theorem dX7_outMany_10 : decode cX7_outMany 10 = .ok (.iaload, 1) := by decide +kernel
theorem dX7_outMany_11 : decode cX7_outMany 11 = .ok (.if_icmp .ge 21, 3) := by decide +kernel
theorem dX7_outMany_14 : decode cX7_outMany 14 = .ok (.iload_n 1, 1) := by decide +kernel
theorem dX7_outMany_15 : decode cX7_outMany 15 = .ok (.aload_n 0, 1) := by decide +kernel
theorem dX7_outMany_16 : decode cX7_outMany 16 = .ok (.iload_n 2, 1) := by decide +kernel
theorem dX7_outMany_17 : decode cX7_outMany 17 = .ok (.iconst 4, 1) := by decide +kernel
theorem dX7_outMany_18 : decode cX7_outMany 18 = .ok (.invokevirtual 297, 3) := by decide +kernel
theorem dX7_outMany_21 : decode cX7_outMany 21 = .ok (.invokestatic 69, 3) := by decide +kernel
theorem dX7_outMany_24 : decode cX7_outMany 24 = .ok (.iadd, 1) := by decide +kernel
theorem dX7_outMany_25 : decode cX7_outMany 25 = .ok (.istore_n 1, 1) := by decide +kernel
theorem dX7_outMany_26 : decode cX7_outMany 26 = .ok (.iinc 2 1, 3) := by decide +kernel
theorem dX7_outMany_29 : decode cX7_outMany 29 = .ok (.goto (-25), 3) := by decide +kernel
theorem dX7_outMany_32 : decode cX7_outMany 32 = .ok (.iload_n 1, 1) := by decide +kernel
theorem dX7_outMany_33 : decode cX7_outMany 33 = .ok (.ireturn, 1) := by decide +kernel
theorem dX7_setting_0 : decode cX7_setting 0 = .ok (.aload_n 0, 1) := by decide +kernel
theorem dX7_setting_1 : decode cX7_setting 1 = .ok (.iload_n 1, 1) := by decide +kernel
theorem dX7_setting_2 : decode cX7_setting 2 = .ok (.i2l, 1) := by decide +kernel
theorem dX7_setting_3 : decode cX7_setting 3 = .ok (.lconst 0, 1) := by decide +kernel
theorem dX7_setting_4 : decode cX7_setting 4 = .ok (.ldc2_w 344, 3) := by decide +kernel
theorem dX7_setting_7 : decode cX7_setting 7 = .ok (.invokestatic 84, 3) := by decide +kernel
theorem dX7_setting_10 : decode cX7_setting 10 = .ok (.invokevirtual 76, 3) := by decide +kernel
theorem dX7_setting_13 : decode cX7_setting 13 = .ok (.ifCond .ne 5, 3) := by decide +kernel
theorem dX7_setting_16 : decode cX7_setting 16 = .ok (.iconst 0, 1) := by decide +kernel
theorem dX7_setting_17 : decode cX7_setting 17 = .ok (.ireturn, 1) := by decide +kernel
theorem dX7_setting_18 : decode cX7_setting 18 = .ok (.iload_n 1, 1) := by decide +kernel
theorem dX7_setting_19 : decode cX7_setting 19 = .ok (.tableswitch 123 0 9 #[53, 60, 67, 74, 81, 88, 95, 102, 110, 115], 53) := by decide +kernel
theorem dX7_setting_72 : decode cX7_setting 72 = .ok (.aload_n 0, 1) := by decide +kernel
theorem dX7_setting_73 : decode cX7_setting 73 = .ok (.getfield 20, 3) := by decide +kernel
theorem dX7_setting_76 : decode cX7_setting 76 = .ok (.iconst 0, 1) := by decide +kernel
theorem dX7_setting_77 : decode cX7_setting 77 = .ok (.iaload, 1) := by decide +kernel
theorem dX7_setting_78 : decode cX7_setting 78 = .ok (.ireturn, 1) := by decide +kernel
theorem dX7_setting_79 : decode cX7_setting 79 = .ok (.aload_n 0, 1) := by decide +kernel
theorem dX7_setting_80 : decode cX7_setting 80 = .ok (.invokevirtual 346, 3) := by decide +kernel
theorem dX7_setting_83 : decode cX7_setting 83 = .ok (.iconst 2, 1) := by decide +kernel
theorem dX7_setting_84 : decode cX7_setting 84 = .ok (.idiv, 1) := by decide +kernel
theorem dX7_setting_85 : decode cX7_setting 85 = .ok (.ireturn, 1) := by decide +kernel
theorem dX7_setting_86 : decode cX7_setting 86 = .ok (.aload_n 0, 1) := by decide +kernel
theorem dX7_setting_87 : decode cX7_setting 87 = .ok (.getfield 20, 3) := by decide +kernel
theorem dX7_setting_90 : decode cX7_setting 90 = .ok (.iconst 1, 1) := by decide +kernel
theorem dX7_setting_91 : decode cX7_setting 91 = .ok (.iaload, 1) := by decide +kernel
theorem dX7_setting_92 : decode cX7_setting 92 = .ok (.ireturn, 1) := by decide +kernel
theorem dX7_setting_93 : decode cX7_setting 93 = .ok (.aload_n 0, 1) := by decide +kernel
theorem dX7_setting_94 : decode cX7_setting 94 = .ok (.getfield 20, 3) := by decide +kernel
theorem dX7_setting_97 : decode cX7_setting 97 = .ok (.iconst 2, 1) := by decide +kernel
theorem dX7_setting_98 : decode cX7_setting 98 = .ok (.iaload, 1) := by decide +kernel
theorem dX7_setting_99 : decode cX7_setting 99 = .ok (.ireturn, 1) := by decide +kernel
theorem dX7_setting_100 : decode cX7_setting 100 = .ok (.aload_n 0, 1) := by decide +kernel
theorem dX7_setting_101 : decode cX7_setting 101 = .ok (.getfield 20, 3) := by decide +kernel
theorem dX7_setting_104 : decode cX7_setting 104 = .ok (.iconst 3, 1) := by decide +kernel
theorem dX7_setting_105 : decode cX7_setting 105 = .ok (.iaload, 1) := by decide +kernel
theorem dX7_setting_106 : decode cX7_setting 106 = .ok (.ireturn, 1) := by decide +kernel
theorem dX7_setting_107 : decode cX7_setting 107 = .ok (.aload_n 0, 1) := by decide +kernel
theorem dX7_setting_108 : decode cX7_setting 108 = .ok (.getfield 20, 3) := by decide +kernel
theorem dX7_setting_111 : decode cX7_setting 111 = .ok (.iconst 4, 1) := by decide +kernel
theorem dX7_setting_112 : decode cX7_setting 112 = .ok (.iaload, 1) := by decide +kernel
theorem dX7_setting_113 : decode cX7_setting 113 = .ok (.ireturn, 1) := by decide +kernel
theorem dX7_setting_114 : decode cX7_setting 114 = .ok (.aload_n 0, 1) := by decide +kernel
theorem dX7_setting_115 : decode cX7_setting 115 = .ok (.getfield 20, 3) := by decide +kernel
theorem dX7_setting_118 : decode cX7_setting 118 = .ok (.iconst 5, 1) := by decide +kernel
theorem dX7_setting_119 : decode cX7_setting 119 = .ok (.iaload, 1) := by decide +kernel
theorem dX7_setting_120 : decode cX7_setting 120 = .ok (.ireturn, 1) := by decide +kernel
theorem dX7_setting_121 : decode cX7_setting 121 = .ok (.aload_n 0, 1) := by decide +kernel
theorem dX7_setting_122 : decode cX7_setting 122 = .ok (.getfield 20, 3) := by decide +kernel
theorem dX7_setting_125 : decode cX7_setting 125 = .ok (.bipush 6, 2) := by decide +kernel
theorem dX7_setting_127 : decode cX7_setting 127 = .ok (.iaload, 1) := by decide +kernel
theorem dX7_setting_128 : decode cX7_setting 128 = .ok (.ireturn, 1) := by decide +kernel
theorem dX7_setting_129 : decode cX7_setting 129 = .ok (.aload_n 0, 1) := by decide +kernel
theorem dX7_setting_130 : decode cX7_setting 130 = .ok (.invokevirtual 349, 3) := by decide +kernel
theorem dX7_setting_133 : decode cX7_setting 133 = .ok (.ireturn, 1) := by decide +kernel
theorem dX7_setting_134 : decode cX7_setting 134 = .ok (.aload_n 0, 1) := by decide +kernel
theorem dX7_setting_135 : decode cX7_setting 135 = .ok (.getfield 20, 3) := by decide +kernel
theorem dX7_setting_138 : decode cX7_setting 138 = .ok (.bipush 7, 2) := by decide +kernel
theorem dX7_setting_140 : decode cX7_setting 140 = .ok (.iaload, 1) := by decide +kernel
theorem dX7_setting_141 : decode cX7_setting 141 = .ok (.ireturn, 1) := by decide +kernel
theorem dX7_setting_142 : decode cX7_setting 142 = .ok (.aload_n 0, 1) := by decide +kernel
theorem dX7_setting_143 : decode cX7_setting 143 = .ok (.getfield 156, 3) := by decide +kernel
theorem dX7_setting_146 : decode cX7_setting 146 = .ok (.ireturn, 1) := by decide +kernel
theorem dX7_beacon_0 : decode cX7_beacon 0 = .ok (.aload_n 0, 1) := by decide +kernel
theorem dX7_beacon_1 : decode cX7_beacon 1 = .ok (.aload_n 0, 1) := by decide +kernel
theorem dX7_beacon_2 : decode cX7_beacon 2 = .ok (.iload_n 1, 1) := by decide +kernel
theorem dX7_beacon_3 : decode cX7_beacon 3 = .ok (.invokevirtual 341, 3) := by decide +kernel
theorem dX7_beacon_6 : decode cX7_beacon 6 = .ok (.iload_n 2, 1) := by decide +kernel
theorem dX7_beacon_7 : decode cX7_beacon 7 = .ok (.i2l, 1) := by decide +kernel
theorem dX7_beacon_8 : decode cX7_beacon 8 = .ok (.lconst 0, 1) := by decide +kernel
theorem dX7_beacon_9 : decode cX7_beacon 9 = .ok (.ldc2_w 352, 3) := by decide +kernel
theorem dX7_beacon_12 : decode cX7_beacon 12 = .ok (.invokestatic 84, 3) := by decide +kernel
theorem dX7_beacon_15 : decode cX7_beacon 15 = .ok (.invokevirtual 354, 3) := by decide +kernel
theorem dX7_beacon_18 : decode cX7_beacon 18 = .ok (.ifCond .ne 5, 3) := by decide +kernel
theorem dX7_beacon_21 : decode cX7_beacon 21 = .ok (.iconst 0, 1) := by decide +kernel
theorem dX7_beacon_22 : decode cX7_beacon 22 = .ok (.ireturn, 1) := by decide +kernel
theorem dX7_beacon_23 : decode cX7_beacon 23 = .ok (.iload_n 2, 1) := by decide +kernel
theorem dX7_beacon_24 : decode cX7_beacon 24 = .ok (.lookupswitch 44 #[(9, 28), (10, 38)], 28) := by decide +kernel
theorem dX7_beacon_52 : decode cX7_beacon 52 = .ok (.aload_n 0, 1) := by decide +kernel
theorem dX7_beacon_53 : decode cX7_beacon 53 = .ok (.getfield 20, 3) := by decide +kernel
theorem dX7_beacon_56 : decode cX7_beacon 56 = .ok (.bipush 13, 2) := by decide +kernel
theorem dX7_beacon_58 : decode cX7_beacon 58 = .ok (.iload_n 1, 1) := by decide +kernel
theorem dX7_beacon_59 : decode cX7_beacon 59 = .ok (.iadd, 1) := by decide +kernel
theorem dX7_beacon_60 : decode cX7_beacon 60 = .ok (.iaload, 1) := by decide +kernel
theorem dX7_beacon_61 : decode cX7_beacon 61 = .ok (.ireturn, 1) := by decide +kernel
theorem dX7_beacon_62 : decode cX7_beacon 62 = .ok (.aload_n 0, 1) := by decide +kernel
theorem dX7_beacon_63 : decode cX7_beacon 63 = .ok (.iload_n 1, 1) := by decide +kernel
theorem dX7_beacon_64 : decode cX7_beacon 64 = .ok (.invokevirtual 257, 3) := by decide +kernel
theorem dX7_beacon_67 : decode cX7_beacon 67 = .ok (.ireturn, 1) := by decide +kernel
theorem dX7_beacon_68 : decode cX7_beacon 68 = .ok (.aload_n 0, 1) := by decide +kernel
theorem dX7_beacon_69 : decode cX7_beacon 69 = .ok (.iload_n 1, 1) := by decide +kernel
theorem dX7_beacon_70 : decode cX7_beacon 70 = .ok (.iload_n 2, 1) := by decide +kernel
theorem dX7_beacon_71 : decode cX7_beacon 71 = .ok (.invokevirtual 251, 3) := by decide +kernel
theorem dX7_beacon_74 : decode cX7_beacon 74 = .ok (.ireturn, 1) := by decide +kernel
theorem dX7_slots_0 : decode cX7_slots 0 = .ok (.aload_n 0, 1) := by decide +kernel
theorem dX7_slots_1 : decode cX7_slots 1 = .ok (.aload_n 0, 1) := by decide +kernel
theorem dX7_slots_2 : decode cX7_slots 2 = .ok (.iload_n 1, 1) := by decide +kernel
theorem dX7_slots_3 : decode cX7_slots 3 = .ok (.invokevirtual 341, 3) := by decide +kernel
theorem dX7_slots_6 : decode cX7_slots 6 = .ok (.iload_n 2, 1) := by decide +kernel
theorem dX7_slots_7 : decode cX7_slots 7 = .ok (.i2l, 1) := by decide +kernel
theorem dX7_slots_8 : decode cX7_slots 8 = .ok (.lconst 0, 1) := by decide +kernel
theorem dX7_slots_9 : decode cX7_slots 9 = .ok (.ldc2_w 358, 3) := by decide +kernel
theorem dX7_slots_12 : decode cX7_slots 12 = .ok (.invokestatic 84, 3) := by decide +kernel
theorem dX7_slots_15 : decode cX7_slots 15 = .ok (.invokevirtual 354, 3) := by decide +kernel
theorem dX7_slots_18 : decode cX7_slots 18 = .ok (.ifCond .eq 15, 3) := by decide +kernel
theorem dX7_slots_21 : decode cX7_slots 21 = .ok (.aload_n 0, 1) := by decide +kernel
theorem dX7_slots_22 : decode cX7_slots 22 = .ok (.iload_n 1, 1) := by decide +kernel
theorem dX7_slots_23 : decode cX7_slots 23 = .ok (.bipush 14, 2) := by decide +kernel
theorem dX7_slots_25 : decode cX7_slots 25 = .ok (.iload_n 2, 1) := by decide +kernel
theorem dX7_slots_26 : decode cX7_slots 26 = .ok (.iadd, 1) := by decide +kernel
theorem dX7_slots_27 : decode cX7_slots 27 = .ok (.invokevirtual 251, 3) := by decide +kernel
theorem dX7_slots_30 : decode cX7_slots 30 = .ok (.goto 4, 3) := by decide +kernel
theorem dX7_slots_33 : decode cX7_slots 33 = .ok (.iconst 0, 1) := by decide +kernel
theorem dX7_slots_34 : decode cX7_slots 34 = .ok (.ireturn, 1) := by decide +kernel
theorem dX7_reckoned_0 : decode cX7_reckoned 0 = .ok (.aload_n 0, 1) := by decide +kernel
theorem dX7_reckoned_1 : decode cX7_reckoned 1 = .ok (.aload_n 0, 1) := by decide +kernel
theorem dX7_reckoned_2 : decode cX7_reckoned 2 = .ok (.iload_n 1, 1) := by decide +kernel
theorem dX7_reckoned_3 : decode cX7_reckoned 3 = .ok (.invokevirtual 341, 3) := by decide +kernel
theorem dX7_reckoned_6 : decode cX7_reckoned 6 = .ok (.invokevirtual 76, 3) := by decide +kernel
theorem dX7_reckoned_9 : decode cX7_reckoned 9 = .ok (.ifCond .ne 5, 3) := by decide +kernel
theorem dX7_reckoned_12 : decode cX7_reckoned 12 = .ok (.iconst 0, 1) := by decide +kernel
theorem dX7_reckoned_13 : decode cX7_reckoned 13 = .ok (.ireturn, 1) := by decide +kernel
theorem dX7_reckoned_14 : decode cX7_reckoned 14 = .ok (.iconst 0, 1) := by decide +kernel
theorem dX7_reckoned_15 : decode cX7_reckoned 15 = .ok (.istore_n 2, 1) := by decide +kernel
theorem dX7_reckoned_16 : decode cX7_reckoned 16 = .ok (.iconst 0, 1) := by decide +kernel
theorem dX7_reckoned_17 : decode cX7_reckoned 17 = .ok (.istore_n 3, 1) := by decide +kernel
theorem dX7_reckoned_18 : decode cX7_reckoned 18 = .ok (.iload_n 3, 1) := by decide +kernel
theorem dX7_reckoned_19 : decode cX7_reckoned 19 = .ok (.iconst 4, 1) := by decide +kernel
theorem dX7_reckoned_20 : decode cX7_reckoned 20 = .ok (.if_icmp .ge 31, 3) := by decide +kernel
theorem dX7_reckoned_23 : decode cX7_reckoned 23 = .ok (.iload_n 2, 1) := by decide +kernel
theorem dX7_reckoned_24 : decode cX7_reckoned 24 = .ok (.aload_n 0, 1) := by decide +kernel
theorem dX7_reckoned_25 : decode cX7_reckoned 25 = .ok (.iload_n 1, 1) := by decide +kernel
theorem dX7_reckoned_26 : decode cX7_reckoned 26 = .ok (.bipush 14, 2) := by decide +kernel
theorem dX7_reckoned_28 : decode cX7_reckoned 28 = .ok (.iload_n 3, 1) := by decide +kernel
theorem dX7_reckoned_29 : decode cX7_reckoned 29 = .ok (.iadd, 1) := by decide +kernel
theorem dX7_reckoned_30 : decode cX7_reckoned 30 = .ok (.invokevirtual 251, 3) := by decide +kernel
theorem dX7_reckoned_33 : decode cX7_reckoned 33 = .ok (.aload_n 0, 1) := by decide +kernel
theorem dX7_reckoned_34 : decode cX7_reckoned 34 = .ok (.getfield 20, 3) := by decide +kernel
theorem dX7_reckoned_37 : decode cX7_reckoned 37 = .ok (.bipush 8, 2) := by decide +kernel
theorem dX7_reckoned_39 : decode cX7_reckoned 39 = .ok (.iload_n 3, 1) := by decide +kernel
theorem dX7_reckoned_40 : decode cX7_reckoned 40 = .ok (.iadd, 1) := by decide +kernel
theorem dX7_reckoned_41 : decode cX7_reckoned 41 = .ok (.iaload, 1) := by decide +kernel
theorem dX7_reckoned_42 : decode cX7_reckoned 42 = .ok (.imul, 1) := by decide +kernel
theorem dX7_reckoned_43 : decode cX7_reckoned 43 = .ok (.iadd, 1) := by decide +kernel
theorem dX7_reckoned_44 : decode cX7_reckoned 44 = .ok (.istore_n 2, 1) := by decide +kernel
theorem dX7_reckoned_45 : decode cX7_reckoned 45 = .ok (.iinc 3 1, 3) := by decide +kernel
theorem dX7_reckoned_48 : decode cX7_reckoned 48 = .ok (.goto (-30), 3) := by decide +kernel
theorem dX7_reckoned_51 : decode cX7_reckoned 51 = .ok (.iload_n 2, 1) := by decide +kernel
theorem dX7_reckoned_52 : decode cX7_reckoned 52 = .ok (.ireturn, 1) := by decide +kernel
theorem dX7_lettersOf_0 : decode cX7_lettersOf 0 = .ok (.iconst 0, 1) := by decide +kernel
theorem dX7_lettersOf_1 : decode cX7_lettersOf 1 = .ok (.istore_n 2, 1) := by decide +kernel
theorem dX7_lettersOf_2 : decode cX7_lettersOf 2 = .ok (.lload_n 0, 1) := by decide +kernel
theorem dX7_lettersOf_3 : decode cX7_lettersOf 3 = .ok (.lstore_n 3, 1) := by decide +kernel
theorem dX7_lettersOf_4 : decode cX7_lettersOf 4 = .ok (.lload_n 3, 1) := by decide +kernel
theorem dX7_lettersOf_5 : decode cX7_lettersOf 5 = .ok (.lconst 0, 1) := by decide +kernel
theorem dX7_lettersOf_6 : decode cX7_lettersOf 6 = .ok (.lcmp, 1) := by decide +kernel
theorem dX7_lettersOf_7 : decode cX7_lettersOf 7 = .ok (.ifCond .le 13, 3) := by decide +kernel
theorem dX7_lettersOf_10 : decode cX7_lettersOf 10 = .ok (.iinc 2 1, 3) := by decide +kernel
theorem dX7_lettersOf_13 : decode cX7_lettersOf 13 = .ok (.lload_n 3, 1) := by decide +kernel
theorem dX7_lettersOf_14 : decode cX7_lettersOf 14 = .ok (.iconst 5, 1) := by decide +kernel
theorem dX7_lettersOf_15 : decode cX7_lettersOf 15 = .ok (.lshr, 1) := by decide +kernel
theorem dX7_lettersOf_16 : decode cX7_lettersOf 16 = .ok (.lstore_n 3, 1) := by decide +kernel
theorem dX7_lettersOf_17 : decode cX7_lettersOf 17 = .ok (.goto (-13), 3) := by decide +kernel
theorem dX7_lettersOf_20 : decode cX7_lettersOf 20 = .ok (.iload_n 2, 1) := by decide +kernel
theorem dX7_lettersOf_21 : decode cX7_lettersOf 21 = .ok (.ireturn, 1) := by decide +kernel
theorem dX7_letterOf_0 : decode cX7_letterOf 0 = .ok (.lload_n 0, 1) := by decide +kernel
theorem dX7_letterOf_1 : decode cX7_letterOf 1 = .ok (.invokestatic 360, 3) := by decide +kernel
theorem dX7_letterOf_4 : decode cX7_letterOf 4 = .ok (.istore_n 3, 1) := by decide +kernel
theorem dX7_letterOf_5 : decode cX7_letterOf 5 = .ok (.iload_n 2, 1) := by decide +kernel
theorem dX7_letterOf_6 : decode cX7_letterOf 6 = .ok (.i2l, 1) := by decide +kernel
theorem dX7_letterOf_7 : decode cX7_letterOf 7 = .ok (.lconst 0, 1) := by decide +kernel
theorem dX7_letterOf_8 : decode cX7_letterOf 8 = .ok (.iload_n 3, 1) := by decide +kernel
theorem dX7_letterOf_9 : decode cX7_letterOf 9 = .ok (.iconst 1, 1) := by decide +kernel
theorem dX7_letterOf_10 : decode cX7_letterOf 10 = .ok (.isub, 1) := by decide +kernel
theorem dX7_letterOf_11 : decode cX7_letterOf 11 = .ok (.i2l, 1) := by decide +kernel
theorem dX7_letterOf_12 : decode cX7_letterOf 12 = .ok (.invokestatic 84, 3) := by decide +kernel
theorem dX7_letterOf_15 : decode cX7_letterOf 15 = .ok (.ifCond .eq 23, 3) := by decide +kernel
theorem dX7_letterOf_18 : decode cX7_letterOf 18 = .ok (.lload_n 0, 1) := by decide +kernel
theorem dX7_letterOf_19 : decode cX7_letterOf 19 = .ok (.iconst 5, 1) := by decide +kernel
theorem dX7_letterOf_20 : decode cX7_letterOf 20 = .ok (.iload_n 3, 1) := by decide +kernel
theorem dX7_letterOf_21 : decode cX7_letterOf 21 = .ok (.iconst 1, 1) := by decide +kernel
theorem dX7_letterOf_22 : decode cX7_letterOf 22 = .ok (.isub, 1) := by decide +kernel
theorem dX7_letterOf_23 : decode cX7_letterOf 23 = .ok (.iload_n 2, 1) := by decide +kernel
theorem dX7_letterOf_24 : decode cX7_letterOf 24 = .ok (.isub, 1) := by decide +kernel
theorem dX7_letterOf_25 : decode cX7_letterOf 25 = .ok (.imul, 1) := by decide +kernel
theorem dX7_letterOf_26 : decode cX7_letterOf 26 = .ok (.lshr, 1) := by decide +kernel
theorem dX7_letterOf_27 : decode cX7_letterOf 27 = .ok (.ldc2_w 364, 3) := by decide +kernel
theorem dX7_letterOf_30 : decode cX7_letterOf 30 = .ok (.land, 1) := by decide +kernel
theorem dX7_letterOf_31 : decode cX7_letterOf 31 = .ok (.l2i, 1) := by decide +kernel
theorem dX7_letterOf_32 : decode cX7_letterOf 32 = .ok (.bipush 96, 2) := by decide +kernel
theorem dX7_letterOf_34 : decode cX7_letterOf 34 = .ok (.iadd, 1) := by decide +kernel
theorem dX7_letterOf_35 : decode cX7_letterOf 35 = .ok (.goto 4, 3) := by decide +kernel
theorem dX7_letterOf_38 : decode cX7_letterOf 38 = .ok (.iconst 0, 1) := by decide +kernel
theorem dX7_letterOf_39 : decode cX7_letterOf 39 = .ok (.ireturn, 1) := by decide +kernel
theorem dX7_letter_0 : decode cX7_letter 0 = .ok (.aload_n 0, 1) := by decide +kernel
theorem dX7_letter_1 : decode cX7_letter 1 = .ok (.aload_n 0, 1) := by decide +kernel
theorem dX7_letter_2 : decode cX7_letter 2 = .ok (.iload_n 1, 1) := by decide +kernel
theorem dX7_letter_3 : decode cX7_letter 3 = .ok (.invokevirtual 341, 3) := by decide +kernel
theorem dX7_letter_6 : decode cX7_letter 6 = .ok (.invokevirtual 76, 3) := by decide +kernel
theorem dX7_letter_9 : decode cX7_letter 9 = .ok (.ifCond .eq 16, 3) := by decide +kernel
theorem dX7_letter_12 : decode cX7_letter 12 = .ok (.aload_n 0, 1) := by decide +kernel
theorem dX7_letter_13 : decode cX7_letter 13 = .ok (.getfield 35, 3) := by decide +kernel
theorem dX7_letter_16 : decode cX7_letter 16 = .ok (.iload_n 1, 1) := by decide +kernel
theorem dX7_letter_17 : decode cX7_letter 17 = .ok (.laload, 1) := by decide +kernel
theorem dX7_letter_18 : decode cX7_letter 18 = .ok (.iload_n 2, 1) := by decide +kernel
theorem dX7_letter_19 : decode cX7_letter 19 = .ok (.invokestatic 366, 3) := by decide +kernel
theorem dX7_letter_22 : decode cX7_letter 22 = .ok (.goto 4, 3) := by decide +kernel
theorem dX7_letter_25 : decode cX7_letter 25 = .ok (.iconst 0, 1) := by decide +kernel
theorem dX7_letter_26 : decode cX7_letter 26 = .ok (.ireturn, 1) := by decide +kernel
theorem dX7_heard_0 : decode cX7_heard 0 = .ok (.aload_n 0, 1) := by decide +kernel
theorem dX7_heard_1 : decode cX7_heard 1 = .ok (.aload_n 0, 1) := by decide +kernel
theorem dX7_heard_2 : decode cX7_heard 2 = .ok (.iload_n 1, 1) := by decide +kernel
theorem dX7_heard_3 : decode cX7_heard 3 = .ok (.iload_n 2, 1) := by decide +kernel
theorem dX7_heard_4 : decode cX7_heard 4 = .ok (.invokevirtual 370, 3) := by decide +kernel
theorem dX7_heard_7 : decode cX7_heard 7 = .ok (.invokevirtual 76, 3) := by decide +kernel
theorem dX7_heard_10 : decode cX7_heard 10 = .ok (.ifCond .eq 15, 3) := by decide +kernel
theorem dX7_heard_13 : decode cX7_heard 13 = .ok (.aload_n 0, 1) := by decide +kernel
theorem dX7_heard_14 : decode cX7_heard 14 = .ok (.iload_n 1, 1) := by decide +kernel
theorem dX7_heard_15 : decode cX7_heard 15 = .ok (.bipush 19, 2) := by decide +kernel
theorem dX7_heard_17 : decode cX7_heard 17 = .ok (.iload_n 2, 1) := by decide +kernel
theorem dX7_heard_18 : decode cX7_heard 18 = .ok (.iadd, 1) := by decide +kernel
theorem dX7_heard_19 : decode cX7_heard 19 = .ok (.invokevirtual 251, 3) := by decide +kernel
theorem dX7_heard_22 : decode cX7_heard 22 = .ok (.goto 4, 3) := by decide +kernel
theorem dX7_heard_25 : decode cX7_heard 25 = .ok (.iconst 0, 1) := by decide +kernel
theorem dX7_heard_26 : decode cX7_heard 26 = .ok (.ireturn, 1) := by decide +kernel
theorem dX7_knows_0 : decode cX7_knows 0 = .ok (.aload_n 0, 1) := by decide +kernel
theorem dX7_knows_1 : decode cX7_knows 1 = .ok (.aload_n 0, 1) := by decide +kernel
theorem dX7_knows_2 : decode cX7_knows 2 = .ok (.iload_n 1, 1) := by decide +kernel
theorem dX7_knows_3 : decode cX7_knows 3 = .ok (.iload_n 2, 1) := by decide +kernel
theorem dX7_knows_4 : decode cX7_knows 4 = .ok (.invokevirtual 370, 3) := by decide +kernel
theorem dX7_knows_7 : decode cX7_knows 7 = .ok (.invokevirtual 76, 3) := by decide +kernel
theorem dX7_knows_10 : decode cX7_knows 10 = .ok (.ifCond .eq 16, 3) := by decide +kernel
theorem dX7_knows_13 : decode cX7_knows 13 = .ok (.aload_n 0, 1) := by decide +kernel
theorem dX7_knows_14 : decode cX7_knows 14 = .ok (.iload_n 1, 1) := by decide +kernel
theorem dX7_knows_15 : decode cX7_knows 15 = .ok (.iload_n 2, 1) := by decide +kernel
theorem dX7_knows_16 : decode cX7_knows 16 = .ok (.invokevirtual 254, 3) := by decide +kernel
theorem dX7_knows_19 : decode cX7_knows 19 = .ok (.ifCond .eq 7, 3) := by decide +kernel
theorem dX7_knows_22 : decode cX7_knows 22 = .ok (.iconst 1, 1) := by decide +kernel
theorem dX7_knows_23 : decode cX7_knows 23 = .ok (.goto 4, 3) := by decide +kernel
theorem dX7_knows_26 : decode cX7_knows 26 = .ok (.iconst 0, 1) := by decide +kernel
theorem dX7_knows_27 : decode cX7_knows 27 = .ok (.ireturn, 1) := by decide +kernel
theorem dX7_why_0 : decode cX7_why 0 = .ok (.aload_n 0, 1) := by decide +kernel
theorem dX7_why_1 : decode cX7_why 1 = .ok (.aload_n 0, 1) := by decide +kernel
theorem dX7_why_2 : decode cX7_why 2 = .ok (.iload_n 1, 1) := by decide +kernel
theorem dX7_why_3 : decode cX7_why 3 = .ok (.invokevirtual 341, 3) := by decide +kernel
theorem dX7_why_6 : decode cX7_why 6 = .ok (.invokevirtual 76, 3) := by decide +kernel
theorem dX7_why_9 : decode cX7_why 9 = .ok (.ifCond .ne 5, 3) := by decide +kernel
theorem dX7_why_12 : decode cX7_why 12 = .ok (.iconst 0, 1) := by decide +kernel
theorem dX7_why_13 : decode cX7_why 13 = .ok (.ireturn, 1) := by decide +kernel
theorem dX7_why_14 : decode cX7_why 14 = .ok (.aload_n 0, 1) := by decide +kernel
theorem dX7_why_15 : decode cX7_why 15 = .ok (.iload_n 1, 1) := by decide +kernel
theorem dX7_why_16 : decode cX7_why 16 = .ok (.iconst 5, 1) := by decide +kernel
theorem dX7_why_17 : decode cX7_why 17 = .ok (.invokevirtual 251, 3) := by decide +kernel
theorem dX7_why_20 : decode cX7_why 20 = .ok (.tableswitch 44 0 4 #[40, 42, 44, 36, 38], 36) := by decide +kernel
theorem dX7_why_56 : decode cX7_why 56 = .ok (.iconst 0, 1) := by decide +kernel
theorem dX7_why_57 : decode cX7_why 57 = .ok (.ireturn, 1) := by decide +kernel
theorem dX7_why_58 : decode cX7_why 58 = .ok (.iconst 1, 1) := by decide +kernel
theorem dX7_why_59 : decode cX7_why 59 = .ok (.ireturn, 1) := by decide +kernel
theorem dX7_why_60 : decode cX7_why 60 = .ok (.iconst 2, 1) := by decide +kernel
theorem dX7_why_61 : decode cX7_why 61 = .ok (.ireturn, 1) := by decide +kernel
theorem dX7_why_62 : decode cX7_why 62 = .ok (.iconst 3, 1) := by decide +kernel
theorem dX7_why_63 : decode cX7_why 63 = .ok (.ireturn, 1) := by decide +kernel
theorem dX7_why_64 : decode cX7_why 64 = .ok (.aload_n 0, 1) := by decide +kernel
theorem dX7_why_65 : decode cX7_why 65 = .ok (.getfield 20, 3) := by decide +kernel
theorem dX7_why_68 : decode cX7_why 68 = .ok (.bipush 13, 2) := by decide +kernel
theorem dX7_why_70 : decode cX7_why 70 = .ok (.iload_n 1, 1) := by decide +kernel
theorem dX7_why_71 : decode cX7_why 71 = .ok (.iadd, 1) := by decide +kernel
theorem dX7_why_72 : decode cX7_why 72 = .ok (.iaload, 1) := by decide +kernel
theorem dX7_why_73 : decode cX7_why 73 = .ok (.aload_n 0, 1) := by decide +kernel
theorem dX7_why_74 : decode cX7_why 74 = .ok (.invokevirtual 325, 3) := by decide +kernel
theorem dX7_why_77 : decode cX7_why 77 = .ok (.iand, 1) := by decide +kernel
theorem dX7_why_78 : decode cX7_why 78 = .ok (.ifCond .eq 7, 3) := by decide +kernel
theorem dX7_why_81 : decode cX7_why 81 = .ok (.iconst 4, 1) := by decide +kernel
theorem dX7_why_82 : decode cX7_why 82 = .ok (.goto 4, 3) := by decide +kernel
theorem dX7_why_85 : decode cX7_why 85 = .ok (.iconst 5, 1) := by decide +kernel
theorem dX7_why_86 : decode cX7_why 86 = .ok (.ireturn, 1) := by decide +kernel
theorem dX7_whyNot_0 : decode cX7_whyNot 0 = .ok (.aload_n 0, 1) := by decide +kernel
theorem dX7_whyNot_1 : decode cX7_whyNot 1 = .ok (.aload_n 0, 1) := by decide +kernel
theorem dX7_whyNot_2 : decode cX7_whyNot 2 = .ok (.iload_n 1, 1) := by decide +kernel
theorem dX7_whyNot_3 : decode cX7_whyNot 3 = .ok (.iload_n 2, 1) := by decide +kernel
theorem dX7_whyNot_4 : decode cX7_whyNot 4 = .ok (.invokevirtual 370, 3) := by decide +kernel
theorem dX7_whyNot_7 : decode cX7_whyNot 7 = .ok (.invokevirtual 76, 3) := by decide +kernel
theorem dX7_whyNot_10 : decode cX7_whyNot 10 = .ok (.ifCond .eq 15, 3) := by decide +kernel
theorem dX7_whyNot_13 : decode cX7_whyNot 13 = .ok (.aload_n 0, 1) := by decide +kernel
theorem dX7_whyNot_14 : decode cX7_whyNot 14 = .ok (.iload_n 1, 1) := by decide +kernel
theorem dX7_whyNot_15 : decode cX7_whyNot 15 = .ok (.bipush 35, 2) := by decide +kernel
theorem dX7_whyNot_17 : decode cX7_whyNot 17 = .ok (.iload_n 2, 1) := by decide +kernel
theorem dX7_whyNot_18 : decode cX7_whyNot 18 = .ok (.iadd, 1) := by decide +kernel
theorem dX7_whyNot_19 : decode cX7_whyNot 19 = .ok (.invokevirtual 251, 3) := by decide +kernel
theorem dX7_whyNot_22 : decode cX7_whyNot 22 = .ok (.goto 4, 3) := by decide +kernel
theorem dX7_whyNot_25 : decode cX7_whyNot 25 = .ok (.iconst 0, 1) := by decide +kernel
theorem dX7_whyNot_26 : decode cX7_whyNot 26 = .ok (.ireturn, 1) := by decide +kernel
theorem dX7_dueFor_0 : decode cX7_dueFor 0 = .ok (.iconst 1, 1) := by decide +kernel
theorem dX7_dueFor_1 : decode cX7_dueFor 1 = .ok (.istore_n 2, 1) := by decide +kernel
theorem dX7_dueFor_2 : decode cX7_dueFor 2 = .ok (.aload_n 0, 1) := by decide +kernel
theorem dX7_dueFor_3 : decode cX7_dueFor 3 = .ok (.iload_n 1, 1) := by decide +kernel
theorem dX7_dueFor_4 : decode cX7_dueFor 4 = .ok (.aload_n 0, 1) := by decide +kernel
theorem dX7_dueFor_5 : decode cX7_dueFor 5 = .ok (.getfield 20, 3) := by decide +kernel
theorem dX7_dueFor_8 : decode cX7_dueFor 8 = .ok (.iconst 1, 1) := by decide +kernel
theorem dX7_dueFor_9 : decode cX7_dueFor 9 = .ok (.iaload, 1) := by decide +kernel
theorem dX7_dueFor_10 : decode cX7_dueFor 10 = .ok (.iload_n 2, 1) := by decide +kernel
theorem dX7_dueFor_11 : decode cX7_dueFor 11 = .ok (.iadd, 1) := by decide +kernel
theorem dX7_dueFor_12 : decode cX7_dueFor 12 = .ok (.invokevirtual 276, 3) := by decide +kernel
theorem dX7_dueFor_15 : decode cX7_dueFor 15 = .ok (.ifCond .ne 9, 3) := by decide +kernel
theorem dX7_dueFor_18 : decode cX7_dueFor 18 = .ok (.iinc 2 1, 3) := by decide +kernel
theorem dX7_dueFor_21 : decode cX7_dueFor 21 = .ok (.goto (-19), 3) := by decide +kernel
theorem dX7_dueFor_24 : decode cX7_dueFor 24 = .ok (.iload_n 2, 1) := by decide +kernel
theorem dX7_dueFor_25 : decode cX7_dueFor 25 = .ok (.ireturn, 1) := by decide +kernel
theorem dX7_dueIn_0 : decode cX7_dueIn 0 = .ok (.aload_n 0, 1) := by decide +kernel
theorem dX7_dueIn_1 : decode cX7_dueIn 1 = .ok (.aload_n 0, 1) := by decide +kernel
theorem dX7_dueIn_2 : decode cX7_dueIn 2 = .ok (.iload_n 1, 1) := by decide +kernel
theorem dX7_dueIn_3 : decode cX7_dueIn 3 = .ok (.invokevirtual 341, 3) := by decide +kernel
theorem dX7_dueIn_6 : decode cX7_dueIn 6 = .ok (.invokevirtual 76, 3) := by decide +kernel
theorem dX7_dueIn_9 : decode cX7_dueIn 9 = .ok (.ifCond .eq 11, 3) := by decide +kernel
theorem dX7_dueIn_12 : decode cX7_dueIn 12 = .ok (.aload_n 0, 1) := by decide +kernel
theorem dX7_dueIn_13 : decode cX7_dueIn 13 = .ok (.iload_n 1, 1) := by decide +kernel
theorem dX7_dueIn_14 : decode cX7_dueIn 14 = .ok (.invokevirtual 373, 3) := by decide +kernel
theorem dX7_dueIn_17 : decode cX7_dueIn 17 = .ok (.goto 4, 3) := by decide +kernel
theorem dX7_dueIn_20 : decode cX7_dueIn 20 = .ok (.iconst 0, 1) := by decide +kernel
theorem dX7_dueIn_21 : decode cX7_dueIn 21 = .ok (.ireturn, 1) := by decide +kernel
theorem dX7_hidden_0 : decode cX7_hidden 0 = .ok (.aload_n 0, 1) := by decide +kernel
theorem dX7_hidden_1 : decode cX7_hidden 1 = .ok (.aload_n 0, 1) := by decide +kernel
theorem dX7_hidden_2 : decode cX7_hidden 2 = .ok (.iload_n 1, 1) := by decide +kernel
theorem dX7_hidden_3 : decode cX7_hidden 3 = .ok (.invokevirtual 341, 3) := by decide +kernel
theorem dX7_hidden_6 : decode cX7_hidden 6 = .ok (.invokevirtual 76, 3) := by decide +kernel
theorem dX7_hidden_9 : decode cX7_hidden 9 = .ok (.ifCond .ne 5, 3) := by decide +kernel
theorem dX7_hidden_12 : decode cX7_hidden 12 = .ok (.iconst 0, 1) := by decide +kernel
theorem dX7_hidden_13 : decode cX7_hidden 13 = .ok (.ireturn, 1) := by decide +kernel
theorem dX7_hidden_14 : decode cX7_hidden 14 = .ok (.iconst 0, 1) := by decide +kernel
theorem dX7_hidden_15 : decode cX7_hidden 15 = .ok (.istore_n 2, 1) := by decide +kernel
theorem dX7_hidden_16 : decode cX7_hidden 16 = .ok (.iconst 0, 1) := by decide +kernel
theorem dX7_hidden_17 : decode cX7_hidden 17 = .ok (.istore_n 3, 1) := by decide +kernel
theorem dX7_hidden_18 : decode cX7_hidden 18 = .ok (.iload_n 3, 1) := by decide +kernel
theorem dX7_hidden_19 : decode cX7_hidden 19 = .ok (.aload_n 0, 1) := by decide +kernel
theorem dX7_hidden_20 : decode cX7_hidden 20 = .ok (.getfield 20, 3) := by decide +kernel
theorem dX7_hidden_23 : decode cX7_hidden 23 = .ok (.iconst 0, 1) := by decide +kernel
theorem dX7_hidden_24 : decode cX7_hidden 24 = .ok (.iaload, 1) := by decide +kernel
theorem dX7_hidden_25 : decode cX7_hidden 25 = .ok (.if_icmp .ge 64, 3) := by decide +kernel
theorem dX7_hidden_28 : decode cX7_hidden 28 = .ok (.iconst 0, 1) := by decide +kernel
theorem dX7_hidden_29 : decode cX7_hidden 29 = .ok (.istore 4, 2) := by decide +kernel
theorem dX7_hidden_31 : decode cX7_hidden 31 = .ok (.iload 4, 2) := by decide +kernel
theorem dX7_hidden_33 : decode cX7_hidden 33 = .ok (.iload_n 3, 1) := by decide +kernel
theorem dX7_hidden_34 : decode cX7_hidden 34 = .ok (.if_icmp .ge 49, 3) := by decide +kernel
theorem dX7_hidden_37 : decode cX7_hidden 37 = .ok (.iload_n 2, 1) := by decide +kernel
theorem dX7_hidden_38 : decode cX7_hidden 38 = .ok (.aload_n 0, 1) := by decide +kernel
theorem dX7_hidden_39 : decode cX7_hidden 39 = .ok (.iload_n 1, 1) := by decide +kernel
theorem dX7_hidden_40 : decode cX7_hidden 40 = .ok (.iload 4, 2) := by decide +kernel
theorem dX7_hidden_42 : decode cX7_hidden 42 = .ok (.invokevirtual 208, 3) := by decide +kernel
theorem dX7_hidden_45 : decode cX7_hidden 45 = .ok (.ifCond .eq 26, 3) := by decide +kernel
theorem dX7_hidden_48 : decode cX7_hidden 48 = .ok (.aload_n 0, 1) := by decide +kernel
theorem dX7_hidden_49 : decode cX7_hidden 49 = .ok (.iload_n 1, 1) := by decide +kernel
theorem dX7_hidden_50 : decode cX7_hidden 50 = .ok (.iload_n 3, 1) := by decide +kernel
theorem dX7_hidden_51 : decode cX7_hidden 51 = .ok (.invokevirtual 208, 3) := by decide +kernel
theorem dX7_hidden_54 : decode cX7_hidden 54 = .ok (.ifCond .eq 17, 3) := by decide +kernel
theorem dX7_hidden_57 : decode cX7_hidden 57 = .ok (.aload_n 0, 1) := by decide +kernel
theorem dX7_hidden_58 : decode cX7_hidden 58 = .ok (.iload 4, 2) := by decide +kernel
theorem dX7_hidden_60 : decode cX7_hidden 60 = .ok (.iload_n 3, 1) := by decide +kernel
theorem dX7_hidden_61 : decode cX7_hidden 61 = .ok (.invokevirtual 208, 3) := by decide +kernel
theorem dX7_hidden_64 : decode cX7_hidden 64 = .ok (.ifCond .ne 7, 3) := by decide +kernel
theorem dX7_hidden_67 : decode cX7_hidden 67 = .ok (.iconst 1, 1) := by decide +kernel
theorem dX7_hidden_68 : decode cX7_hidden 68 = .ok (.goto 4, 3) := by decide +kernel
theorem dX7_hidden_71 : decode cX7_hidden 71 = .ok (.iconst 0, 1) := by decide +kernel
theorem dX7_hidden_72 : decode cX7_hidden 72 = .ok (.invokestatic 69, 3) := by decide +kernel
theorem dX7_hidden_75 : decode cX7_hidden 75 = .ok (.iadd, 1) := by decide +kernel
theorem dX7_hidden_76 : decode cX7_hidden 76 = .ok (.istore_n 2, 1) := by decide +kernel
theorem dX7_hidden_77 : decode cX7_hidden 77 = .ok (.iinc 4 1, 3) := by decide +kernel
theorem dX7_hidden_80 : decode cX7_hidden 80 = .ok (.goto (-49), 3) := by decide +kernel
theorem dX7_hidden_83 : decode cX7_hidden 83 = .ok (.iinc 3 1, 3) := by decide +kernel
theorem dX7_hidden_86 : decode cX7_hidden 86 = .ok (.goto (-68), 3) := by decide +kernel
theorem dX7_hidden_89 : decode cX7_hidden 89 = .ok (.iload_n 2, 1) := by decide +kernel
theorem dX7_hidden_90 : decode cX7_hidden 90 = .ok (.ireturn, 1) := by decide +kernel
theorem dX7_spread_0 : decode cX7_spread 0 = .ok (.iload_n 1, 1) := by decide +kernel
theorem dX7_spread_1 : decode cX7_spread 1 = .ok (.istore_n 2, 1) := by decide +kernel
theorem dX7_spread_2 : decode cX7_spread 2 = .ok (.iconst 0, 1) := by decide +kernel
theorem dX7_spread_3 : decode cX7_spread 3 = .ok (.istore_n 3, 1) := by decide +kernel
theorem dX7_spread_4 : decode cX7_spread 4 = .ok (.iload_n 3, 1) := by decide +kernel
theorem dX7_spread_5 : decode cX7_spread 5 = .ok (.aload_n 0, 1) := by decide +kernel
theorem dX7_spread_6 : decode cX7_spread 6 = .ok (.getfield 20, 3) := by decide +kernel
theorem dX7_spread_9 : decode cX7_spread 9 = .ok (.iconst 0, 1) := by decide +kernel
theorem dX7_spread_10 : decode cX7_spread 10 = .ok (.iaload, 1) := by decide +kernel
theorem dX7_spread_11 : decode cX7_spread 11 = .ok (.if_icmp .ge 29, 3) := by decide +kernel
theorem dX7_spread_14 : decode cX7_spread 14 = .ok (.iload_n 1, 1) := by decide +kernel
theorem dX7_spread_15 : decode cX7_spread 15 = .ok (.iload_n 3, 1) := by decide +kernel
theorem dX7_spread_16 : decode cX7_spread 16 = .ok (.invokestatic 180, 3) := by decide +kernel
theorem dX7_spread_19 : decode cX7_spread 19 = .ok (.ifCond .eq 15, 3) := by decide +kernel
theorem dX7_spread_22 : decode cX7_spread 22 = .ok (.iload_n 2, 1) := by decide +kernel
theorem dX7_spread_23 : decode cX7_spread 23 = .ok (.aload_n 0, 1) := by decide +kernel
theorem dX7_spread_24 : decode cX7_spread 24 = .ok (.getfield 20, 3) := by decide +kernel
theorem dX7_spread_27 : decode cX7_spread 27 = .ok (.bipush 13, 2) := by decide +kernel
theorem dX7_spread_29 : decode cX7_spread 29 = .ok (.iload_n 3, 1) := by decide +kernel
theorem dX7_spread_30 : decode cX7_spread 30 = .ok (.iadd, 1) := by decide +kernel
theorem dX7_spread_31 : decode cX7_spread 31 = .ok (.iaload, 1) := by decide +kernel
theorem dX7_spread_32 : decode cX7_spread 32 = .ok (.ior, 1) := by decide +kernel
theorem dX7_spread_33 : decode cX7_spread 33 = .ok (.istore_n 2, 1) := by decide +kernel
theorem dX7_spread_34 : decode cX7_spread 34 = .ok (.iinc 3 1, 3) := by decide +kernel
theorem dX7_spread_37 : decode cX7_spread 37 = .ok (.goto (-33), 3) := by decide +kernel
theorem dX7_spread_40 : decode cX7_spread 40 = .ok (.iload_n 2, 1) := by decide +kernel
theorem dX7_spread_41 : decode cX7_spread 41 = .ok (.ireturn, 1) := by decide +kernel
theorem dX7_hops_0 : decode cX7_hops 0 = .ok (.aload_n 0, 1) := by decide +kernel
theorem dX7_hops_1 : decode cX7_hops 1 = .ok (.aload_n 0, 1) := by decide +kernel
theorem dX7_hops_2 : decode cX7_hops 2 = .ok (.iload_n 1, 1) := by decide +kernel
theorem dX7_hops_3 : decode cX7_hops 3 = .ok (.iload_n 2, 1) := by decide +kernel
theorem dX7_hops_4 : decode cX7_hops 4 = .ok (.invokevirtual 370, 3) := by decide +kernel
theorem dX7_hops_7 : decode cX7_hops 7 = .ok (.invokevirtual 76, 3) := by decide +kernel
theorem dX7_hops_10 : decode cX7_hops 10 = .ok (.ifCond .ne 5, 3) := by decide +kernel
theorem dX7_hops_13 : decode cX7_hops 13 = .ok (.iconst 0, 1) := by decide +kernel
theorem dX7_hops_14 : decode cX7_hops 14 = .ok (.ireturn, 1) := by decide +kernel
theorem dX7_hops_15 : decode cX7_hops 15 = .ok (.iconst 1, 1) := by decide +kernel
theorem dX7_hops_16 : decode cX7_hops 16 = .ok (.iload_n 1, 1) := by decide +kernel
theorem dX7_hops_17 : decode cX7_hops 17 = .ok (.ishl, 1) := by decide +kernel
theorem dX7_hops_18 : decode cX7_hops 18 = .ok (.istore_n 3, 1) := by decide +kernel
theorem dX7_hops_19 : decode cX7_hops 19 = .ok (.iconst 0, 1) := by decide +kernel
theorem dX7_hops_20 : decode cX7_hops 20 = .ok (.istore 4, 2) := by decide +kernel
theorem dX7_hops_22 : decode cX7_hops 22 = .ok (.iload 4, 2) := by decide +kernel
theorem dX7_hops_24 : decode cX7_hops 24 = .ok (.bipush 8, 2) := by decide +kernel
theorem dX7_hops_26 : decode cX7_hops 26 = .ok (.if_icmp .ge 26, 3) := by decide +kernel
theorem dX7_hops_29 : decode cX7_hops 29 = .ok (.iload_n 3, 1) := by decide +kernel
theorem dX7_hops_30 : decode cX7_hops 30 = .ok (.iload_n 2, 1) := by decide +kernel
theorem dX7_hops_31 : decode cX7_hops 31 = .ok (.invokestatic 180, 3) := by decide +kernel
theorem dX7_hops_34 : decode cX7_hops 34 = .ok (.ifCond .eq 6, 3) := by decide +kernel
theorem dX7_hops_37 : decode cX7_hops 37 = .ok (.iload 4, 2) := by decide +kernel
theorem dX7_hops_39 : decode cX7_hops 39 = .ok (.ireturn, 1) := by decide +kernel
theorem dX7_hops_40 : decode cX7_hops 40 = .ok (.aload_n 0, 1) := by decide +kernel
theorem dX7_hops_41 : decode cX7_hops 41 = .ok (.iload_n 3, 1) := by decide +kernel
theorem dX7_hops_42 : decode cX7_hops 42 = .ok (.invokevirtual 376, 3) := by decide +kernel
theorem dX7_hops_45 : decode cX7_hops 45 = .ok (.istore_n 3, 1) := by decide +kernel
theorem dX7_hops_46 : decode cX7_hops 46 = .ok (.iinc 4 1, 3) := by decide +kernel
theorem dX7_hops_49 : decode cX7_hops 49 = .ok (.goto (-27), 3) := by decide +kernel
theorem dX7_hops_52 : decode cX7_hops 52 = .ok (.iconst (-1), 1) := by decide +kernel
theorem dX7_hops_53 : decode cX7_hops 53 = .ok (.ireturn, 1) := by decide +kernel
theorem dX7_groupOf_0 : decode cX7_groupOf 0 = .ok (.iconst 1, 1) := by decide +kernel
theorem dX7_groupOf_1 : decode cX7_groupOf 1 = .ok (.iload_n 1, 1) := by decide +kernel
theorem dX7_groupOf_2 : decode cX7_groupOf 2 = .ok (.ishl, 1) := by decide +kernel
theorem dX7_groupOf_3 : decode cX7_groupOf 3 = .ok (.istore_n 2, 1) := by decide +kernel
theorem dX7_groupOf_4 : decode cX7_groupOf 4 = .ok (.iconst 0, 1) := by decide +kernel
theorem dX7_groupOf_5 : decode cX7_groupOf 5 = .ok (.istore_n 3, 1) := by decide +kernel
theorem dX7_groupOf_6 : decode cX7_groupOf 6 = .ok (.iload_n 3, 1) := by decide +kernel
theorem dX7_groupOf_7 : decode cX7_groupOf 7 = .ok (.bipush 8, 2) := by decide +kernel
theorem dX7_groupOf_9 : decode cX7_groupOf 9 = .ok (.if_icmp .ge 15, 3) := by decide +kernel
theorem dX7_groupOf_12 : decode cX7_groupOf 12 = .ok (.aload_n 0, 1) := by decide +kernel
theorem dX7_groupOf_13 : decode cX7_groupOf 13 = .ok (.iload_n 2, 1) := by decide +kernel
theorem dX7_groupOf_14 : decode cX7_groupOf 14 = .ok (.invokevirtual 376, 3) := by decide +kernel
theorem dX7_groupOf_17 : decode cX7_groupOf 17 = .ok (.istore_n 2, 1) := by decide +kernel
theorem dX7_groupOf_18 : decode cX7_groupOf 18 = .ok (.iinc 3 1, 3) := by decide +kernel
theorem dX7_groupOf_21 : decode cX7_groupOf 21 = .ok (.goto (-15), 3) := by decide +kernel
theorem dX7_groupOf_24 : decode cX7_groupOf 24 = .ok (.iload_n 2, 1) := by decide +kernel
theorem dX7_groupOf_25 : decode cX7_groupOf 25 = .ok (.ireturn, 1) := by decide +kernel
theorem dX7_groups_0 : decode cX7_groups 0 = .ok (.aload_n 0, 1) := by decide +kernel
theorem dX7_groups_1 : decode cX7_groups 1 = .ok (.iconst 0, 1) := by decide +kernel
theorem dX7_groups_2 : decode cX7_groups 2 = .ok (.putfield 66, 3) := by decide +kernel
theorem dX7_groups_5 : decode cX7_groups 5 = .ok (.iconst 0, 1) := by decide +kernel
theorem dX7_groups_6 : decode cX7_groups 6 = .ok (.istore_n 1, 1) := by decide +kernel
theorem dX7_groups_7 : decode cX7_groups 7 = .ok (.iconst 0, 1) := by decide +kernel
theorem dX7_groups_8 : decode cX7_groups 8 = .ok (.istore_n 2, 1) := by decide +kernel
theorem dX7_groups_9 : decode cX7_groups 9 = .ok (.iconst 0, 1) := by decide +kernel
theorem dX7_groups_10 : decode cX7_groups 10 = .ok (.istore_n 3, 1) := by decide +kernel
theorem dX7_groups_11 : decode cX7_groups 11 = .ok (.iload_n 3, 1) := by decide +kernel
theorem dX7_groups_12 : decode cX7_groups 12 = .ok (.aload_n 0, 1) := by decide +kernel
theorem dX7_groups_13 : decode cX7_groups 13 = .ok (.getfield 20, 3) := by decide +kernel
theorem dX7_groups_16 : decode cX7_groups 16 = .ok (.iconst 0, 1) := by decide +kernel
theorem dX7_groups_17 : decode cX7_groups 17 = .ok (.iaload, 1) := by decide +kernel
theorem dX7_groups_18 : decode cX7_groups 18 = .ok (.if_icmp .ge 36, 3) := by decide +kernel
theorem dX7_groups_21 : decode cX7_groups 21 = .ok (.iload_n 2, 1) := by decide +kernel
theorem dX7_groups_22 : decode cX7_groups 22 = .ok (.iload_n 1, 1) := by decide +kernel
theorem dX7_groups_23 : decode cX7_groups 23 = .ok (.iload_n 3, 1) := by decide +kernel
theorem dX7_groups_24 : decode cX7_groups 24 = .ok (.invokestatic 180, 3) := by decide +kernel
theorem dX7_groups_27 : decode cX7_groups 27 = .ok (.ifCond .ne 7, 3) := by decide +kernel
theorem dX7_groups_30 : decode cX7_groups 30 = .ok (.iconst 1, 1) := by decide +kernel
theorem dX7_groups_31 : decode cX7_groups 31 = .ok (.goto 4, 3) := by decide +kernel
theorem dX7_groups_34 : decode cX7_groups 34 = .ok (.iconst 0, 1) := by decide +kernel
theorem dX7_groups_35 : decode cX7_groups 35 = .ok (.invokestatic 69, 3) := by decide +kernel
theorem dX7_groups_38 : decode cX7_groups 38 = .ok (.iadd, 1) := by decide +kernel
theorem dX7_groups_39 : decode cX7_groups 39 = .ok (.istore_n 2, 1) := by decide +kernel
theorem dX7_groups_40 : decode cX7_groups 40 = .ok (.iload_n 1, 1) := by decide +kernel
theorem dX7_groups_41 : decode cX7_groups 41 = .ok (.aload_n 0, 1) := by decide +kernel
theorem dX7_groups_42 : decode cX7_groups 42 = .ok (.iload_n 3, 1) := by decide +kernel
theorem dX7_groups_43 : decode cX7_groups 43 = .ok (.invokevirtual 379, 3) := by decide +kernel
theorem dX7_groups_46 : decode cX7_groups 46 = .ok (.ior, 1) := by decide +kernel
theorem dX7_groups_47 : decode cX7_groups 47 = .ok (.istore_n 1, 1) := by decide +kernel
theorem dX7_groups_48 : decode cX7_groups 48 = .ok (.iinc 3 1, 3) := by decide +kernel
theorem dX7_groups_51 : decode cX7_groups 51 = .ok (.goto (-40), 3) := by decide +kernel
theorem dX7_groups_54 : decode cX7_groups 54 = .ok (.iload_n 2, 1) := by decide +kernel
theorem dX7_groups_55 : decode cX7_groups 55 = .ok (.ireturn, 1) := by decide +kernel
theorem dX7_ears_0 : decode cX7_ears 0 = .ok (.aload_n 0, 1) := by decide +kernel
theorem dX7_ears_1 : decode cX7_ears 1 = .ok (.aload_n 0, 1) := by decide +kernel
theorem dX7_ears_2 : decode cX7_ears 2 = .ok (.iload_n 1, 1) := by decide +kernel
theorem dX7_ears_3 : decode cX7_ears 3 = .ok (.invokevirtual 341, 3) := by decide +kernel
theorem dX7_ears_6 : decode cX7_ears 6 = .ok (.invokevirtual 76, 3) := by decide +kernel
theorem dX7_ears_9 : decode cX7_ears 9 = .ok (.ifCond .ne 5, 3) := by decide +kernel
theorem dX7_ears_12 : decode cX7_ears 12 = .ok (.iconst 0, 1) := by decide +kernel
theorem dX7_ears_13 : decode cX7_ears 13 = .ok (.ireturn, 1) := by decide +kernel
theorem dX7_ears_14 : decode cX7_ears 14 = .ok (.aload_n 0, 1) := by decide +kernel
theorem dX7_ears_15 : decode cX7_ears 15 = .ok (.invokevirtual 325, 3) := by decide +kernel
theorem dX7_ears_18 : decode cX7_ears 18 = .ok (.iconst 1, 1) := by decide +kernel
theorem dX7_ears_19 : decode cX7_ears 19 = .ok (.iload_n 1, 1) := by decide +kernel
theorem dX7_ears_20 : decode cX7_ears 20 = .ok (.ishl, 1) := by decide +kernel
theorem dX7_ears_21 : decode cX7_ears 21 = .ok (.iconst (-1), 1) := by decide +kernel
theorem dX7_ears_22 : decode cX7_ears 22 = .ok (.ixor, 1) := by decide +kernel
theorem dX7_ears_23 : decode cX7_ears 23 = .ok (.iand, 1) := by decide +kernel
theorem dX7_ears_24 : decode cX7_ears 24 = .ok (.istore_n 2, 1) := by decide +kernel
theorem dX7_ears_25 : decode cX7_ears 25 = .ok (.iconst 0, 1) := by decide +kernel
theorem dX7_ears_26 : decode cX7_ears 26 = .ok (.istore_n 3, 1) := by decide +kernel
theorem dX7_ears_27 : decode cX7_ears 27 = .ok (.iconst 0, 1) := by decide +kernel
theorem dX7_ears_28 : decode cX7_ears 28 = .ok (.istore 4, 2) := by decide +kernel
theorem dX7_ears_30 : decode cX7_ears 30 = .ok (.iload 4, 2) := by decide +kernel
theorem dX7_ears_32 : decode cX7_ears 32 = .ok (.aload_n 0, 1) := by decide +kernel
theorem dX7_ears_33 : decode cX7_ears 33 = .ok (.getfield 20, 3) := by decide +kernel
theorem dX7_ears_36 : decode cX7_ears 36 = .ok (.iconst 0, 1) := by decide +kernel
theorem dX7_ears_37 : decode cX7_ears 37 = .ok (.iaload, 1) := by decide +kernel
theorem dX7_ears_38 : decode cX7_ears 38 = .ok (.if_icmp .ge 72, 3) := by decide +kernel
theorem dX7_ears_41 : decode cX7_ears 41 = .ok (.iload 4, 2) := by decide +kernel
theorem dX7_ears_43 : decode cX7_ears 43 = .ok (.iload_n 1, 1) := by decide +kernel
theorem dX7_ears_44 : decode cX7_ears 44 = .ok (.if_icmp .eq 26, 3) := by decide +kernel
theorem dX7_ears_47 : decode cX7_ears 47 = .ok (.aload_n 0, 1) := by decide +kernel
theorem dX7_ears_48 : decode cX7_ears 48 = .ok (.iload_n 1, 1) := by decide +kernel
theorem dX7_ears_49 : decode cX7_ears 49 = .ok (.iload 4, 2) := by decide +kernel
theorem dX7_ears_51 : decode cX7_ears 51 = .ok (.invokevirtual 208, 3) := by decide +kernel
theorem dX7_ears_54 : decode cX7_ears 54 = .ok (.ifCond .eq 16, 3) := by decide +kernel
theorem dX7_ears_57 : decode cX7_ears 57 = .ok (.aload_n 0, 1) := by decide +kernel
theorem dX7_ears_58 : decode cX7_ears 58 = .ok (.iload 4, 2) := by decide +kernel
theorem dX7_ears_60 : decode cX7_ears 60 = .ok (.invokevirtual 307, 3) := by decide +kernel
theorem dX7_ears_63 : decode cX7_ears 63 = .ok (.ifCond .eq 7, 3) := by decide +kernel
theorem dX7_ears_66 : decode cX7_ears 66 = .ok (.iconst 1, 1) := by decide +kernel
theorem dX7_ears_67 : decode cX7_ears 67 = .ok (.goto 4, 3) := by decide +kernel
theorem dX7_ears_70 : decode cX7_ears 70 = .ok (.iconst 0, 1) := by decide +kernel
theorem dX7_ears_71 : decode cX7_ears 71 = .ok (.istore 5, 2) := by decide +kernel
theorem dX7_ears_73 : decode cX7_ears 73 = .ok (.iload_n 3, 1) := by decide +kernel
theorem dX7_ears_74 : decode cX7_ears 74 = .ok (.iload 5, 2) := by decide +kernel
theorem dX7_ears_76 : decode cX7_ears 76 = .ok (.ifCond .eq 25, 3) := by decide +kernel
theorem dX7_ears_79 : decode cX7_ears 79 = .ok (.aload_n 0, 1) := by decide +kernel
theorem dX7_ears_80 : decode cX7_ears 80 = .ok (.getfield 20, 3) := by decide +kernel
theorem dX7_ears_83 : decode cX7_ears 83 = .ok (.bipush 13, 2) := by decide +kernel
theorem dX7_ears_85 : decode cX7_ears 85 = .ok (.iload 4, 2) := by decide +kernel
theorem dX7_ears_87 : decode cX7_ears 87 = .ok (.iadd, 1) := by decide +kernel
theorem dX7_ears_88 : decode cX7_ears 88 = .ok (.iaload, 1) := by decide +kernel
theorem dX7_ears_89 : decode cX7_ears 89 = .ok (.iload_n 2, 1) := by decide +kernel
theorem dX7_ears_90 : decode cX7_ears 90 = .ok (.iand, 1) := by decide +kernel
theorem dX7_ears_91 : decode cX7_ears 91 = .ok (.ifCond .ne 10, 3) := by decide +kernel
theorem dX7_ears_94 : decode cX7_ears 94 = .ok (.iconst 1, 1) := by decide +kernel
theorem dX7_ears_95 : decode cX7_ears 95 = .ok (.iload 4, 2) := by decide +kernel
theorem dX7_ears_97 : decode cX7_ears 97 = .ok (.ishl, 1) := by decide +kernel
theorem dX7_ears_98 : decode cX7_ears 98 = .ok (.goto 4, 3) := by decide +kernel
theorem dX7_ears_101 : decode cX7_ears 101 = .ok (.iconst 0, 1) := by decide +kernel
theorem dX7_ears_102 : decode cX7_ears 102 = .ok (.ior, 1) := by decide +kernel
theorem dX7_ears_103 : decode cX7_ears 103 = .ok (.istore_n 3, 1) := by decide +kernel
theorem dX7_ears_104 : decode cX7_ears 104 = .ok (.iinc 4 1, 3) := by decide +kernel
theorem dX7_ears_107 : decode cX7_ears 107 = .ok (.goto (-77), 3) := by decide +kernel
theorem dX7_ears_110 : decode cX7_ears 110 = .ok (.iload_n 3, 1) := by decide +kernel
theorem dX7_ears_111 : decode cX7_ears 111 = .ok (.ireturn, 1) := by decide +kernel
theorem dX7_earliest_0 : decode cX7_earliest 0 = .ok (.aload_n 0, 1) := by decide +kernel
theorem dX7_earliest_1 : decode cX7_earliest 1 = .ok (.iconst 0, 1) := by decide +kernel
theorem dX7_earliest_2 : decode cX7_earliest 2 = .ok (.putfield 66, 3) := by decide +kernel
theorem dX7_earliest_5 : decode cX7_earliest 5 = .ok (.iconst (-1), 1) := by decide +kernel
theorem dX7_earliest_6 : decode cX7_earliest 6 = .ok (.istore_n 1, 1) := by decide +kernel
theorem dX7_earliest_7 : decode cX7_earliest 7 = .ok (.iconst 0, 1) := by decide +kernel
theorem dX7_earliest_8 : decode cX7_earliest 8 = .ok (.istore_n 2, 1) := by decide +kernel
theorem dX7_earliest_9 : decode cX7_earliest 9 = .ok (.iload_n 2, 1) := by decide +kernel
theorem dX7_earliest_10 : decode cX7_earliest 10 = .ok (.aload_n 0, 1) := by decide +kernel
theorem dX7_earliest_11 : decode cX7_earliest 11 = .ok (.getfield 20, 3) := by decide +kernel
theorem dX7_earliest_14 : decode cX7_earliest 14 = .ok (.iconst 0, 1) := by decide +kernel
theorem dX7_earliest_15 : decode cX7_earliest 15 = .ok (.iaload, 1) := by decide +kernel
theorem dX7_earliest_16 : decode cX7_earliest 16 = .ok (.if_icmp .ge 29, 3) := by decide +kernel
theorem dX7_earliest_19 : decode cX7_earliest 19 = .ok (.iload_n 1, 1) := by decide +kernel
theorem dX7_earliest_20 : decode cX7_earliest 20 = .ok (.iconst (-1), 1) := by decide +kernel
theorem dX7_earliest_21 : decode cX7_earliest 21 = .ok (.if_icmp .eq 16, 3) := by decide +kernel
theorem dX7_earliest_24 : decode cX7_earliest 24 = .ok (.aload_n 0, 1) := by decide +kernel
theorem dX7_earliest_25 : decode cX7_earliest 25 = .ok (.iload_n 2, 1) := by decide +kernel
theorem dX7_earliest_26 : decode cX7_earliest 26 = .ok (.invokevirtual 373, 3) := by decide +kernel
theorem dX7_earliest_29 : decode cX7_earliest 29 = .ok (.aload_n 0, 1) := by decide +kernel
theorem dX7_earliest_30 : decode cX7_earliest 30 = .ok (.iload_n 1, 1) := by decide +kernel
theorem dX7_earliest_31 : decode cX7_earliest 31 = .ok (.invokevirtual 373, 3) := by decide +kernel
theorem dX7_earliest_34 : decode cX7_earliest 34 = .ok (.if_icmp .ge 5, 3) := by decide +kernel
theorem dX7_earliest_37 : decode cX7_earliest 37 = .ok (.iload_n 2, 1) := by decide +kernel
theorem dX7_earliest_38 : decode cX7_earliest 38 = .ok (.istore_n 1, 1) := by decide +kernel
theorem dX7_earliest_39 : decode cX7_earliest 39 = .ok (.iinc 2 1, 3) := by decide +kernel
theorem dX7_earliest_42 : decode cX7_earliest 42 = .ok (.goto (-33), 3) := by decide +kernel
theorem dX7_earliest_45 : decode cX7_earliest 45 = .ok (.iload_n 1, 1) := by decide +kernel
theorem dX7_earliest_46 : decode cX7_earliest 46 = .ok (.ireturn, 1) := by decide +kernel
theorem dX7_window_0 : decode cX7_window 0 = .ok (.aload_n 0, 1) := by decide +kernel
theorem dX7_window_1 : decode cX7_window 1 = .ok (.aload_n 0, 1) := by decide +kernel
theorem dX7_window_2 : decode cX7_window 2 = .ok (.iload_n 1, 1) := by decide +kernel
theorem dX7_window_3 : decode cX7_window 3 = .ok (.invokevirtual 341, 3) := by decide +kernel
theorem dX7_window_6 : decode cX7_window 6 = .ok (.invokevirtual 76, 3) := by decide +kernel
theorem dX7_window_9 : decode cX7_window 9 = .ok (.ifCond .eq 11, 3) := by decide +kernel
theorem dX7_window_12 : decode cX7_window 12 = .ok (.aload_n 0, 1) := by decide +kernel
theorem dX7_window_13 : decode cX7_window 13 = .ok (.iload_n 1, 1) := by decide +kernel
theorem dX7_window_14 : decode cX7_window 14 = .ok (.invokevirtual 267, 3) := by decide +kernel
theorem dX7_window_17 : decode cX7_window 17 = .ok (.goto 4, 3) := by decide +kernel
theorem dX7_window_20 : decode cX7_window 20 = .ok (.iconst 0, 1) := by decide +kernel
theorem dX7_window_21 : decode cX7_window 21 = .ok (.ireturn, 1) := by decide +kernel
theorem dX7_leaves_0 : decode cX7_leaves 0 = .ok (.aload_n 0, 1) := by decide +kernel
theorem dX7_leaves_1 : decode cX7_leaves 1 = .ok (.getfield 20, 3) := by decide +kernel
theorem dX7_leaves_4 : decode cX7_leaves 4 = .ok (.iconst 0, 1) := by decide +kernel
theorem dX7_leaves_5 : decode cX7_leaves 5 = .ok (.aload_n 0, 1) := by decide +kernel
theorem dX7_leaves_6 : decode cX7_leaves 6 = .ok (.getfield 29, 3) := by decide +kernel
theorem dX7_leaves_9 : decode cX7_leaves 9 = .ok (.iconst 0, 1) := by decide +kernel
theorem dX7_leaves_10 : decode cX7_leaves 10 = .ok (.invokestatic 152, 3) := by decide +kernel
theorem dX7_leaves_13 : decode cX7_leaves 13 = .ok (.return_, 1) := by decide +kernel
theorem dX7_comesBack_0 : decode cX7_comesBack 0 = .ok (.aload_n 0, 1) := by decide +kernel
theorem dX7_comesBack_1 : decode cX7_comesBack 1 = .ok (.getfield 29, 3) := by decide +kernel
theorem dX7_comesBack_4 : decode cX7_comesBack 4 = .ok (.iconst 0, 1) := by decide +kernel
theorem dX7_comesBack_5 : decode cX7_comesBack 5 = .ok (.aload_n 0, 1) := by decide +kernel
theorem dX7_comesBack_6 : decode cX7_comesBack 6 = .ok (.getfield 20, 3) := by decide +kernel
theorem dX7_comesBack_9 : decode cX7_comesBack 9 = .ok (.iconst 0, 1) := by decide +kernel
theorem dX7_comesBack_10 : decode cX7_comesBack 10 = .ok (.invokestatic 152, 3) := by decide +kernel
theorem dX7_comesBack_13 : decode cX7_comesBack 13 = .ok (.iload_n 1, 1) := by decide +kernel
theorem dX7_comesBack_14 : decode cX7_comesBack 14 = .ok (.ireturn, 1) := by decide +kernel
theorem dX7_areSlots_0 : decode cX7_areSlots 0 = .ok (.iload_n 0, 1) := by decide +kernel
theorem dX7_areSlots_1 : decode cX7_areSlots 1 = .ok (.i2l, 1) := by decide +kernel
theorem dX7_areSlots_2 : decode cX7_areSlots 2 = .ok (.lconst 0, 1) := by decide +kernel
theorem dX7_areSlots_3 : decode cX7_areSlots 3 = .ok (.ldc2_w 382, 3) := by decide +kernel
theorem dX7_areSlots_6 : decode cX7_areSlots 6 = .ok (.invokestatic 84, 3) := by decide +kernel
theorem dX7_areSlots_9 : decode cX7_areSlots 9 = .ok (.ireturn, 1) := by decide +kernel
theorem dX7_cellIn_0 : decode cX7_cellIn 0 = .ok (.aload_n 0, 1) := by decide +kernel
theorem dX7_cellIn_1 : decode cX7_cellIn 1 = .ok (.invokevirtual 384, 3) := by decide +kernel
theorem dX7_cellIn_4 : decode cX7_cellIn 4 = .ok (.aload_n 0, 1) := by decide +kernel
theorem dX7_cellIn_5 : decode cX7_cellIn 5 = .ok (.iload_n 3, 1) := by decide +kernel
theorem dX7_cellIn_6 : decode cX7_cellIn 6 = .ok (.invokevirtual 387, 3) := by decide +kernel
theorem dX7_cellIn_9 : decode cX7_cellIn 9 = .ok (.istore 4, 2) := by decide +kernel
theorem dX7_cellIn_11 : decode cX7_cellIn 11 = .ok (.aload_n 0, 1) := by decide +kernel
theorem dX7_cellIn_12 : decode cX7_cellIn 12 = .ok (.aload_n 0, 1) := by decide +kernel
theorem dX7_cellIn_13 : decode cX7_cellIn 13 = .ok (.iload_n 1, 1) := by decide +kernel
theorem dX7_cellIn_14 : decode cX7_cellIn 14 = .ok (.iload_n 2, 1) := by decide +kernel
theorem dX7_cellIn_15 : decode cX7_cellIn 15 = .ok (.invokevirtual 251, 3) := by decide +kernel
theorem dX7_cellIn_18 : decode cX7_cellIn 18 = .ok (.invokevirtual 390, 3) := by decide +kernel
theorem dX7_cellIn_21 : decode cX7_cellIn 21 = .ok (.ireturn, 1) := by decide +kernel
theorem dX7_stateIn_0 : decode cX7_stateIn 0 = .ok (.aload_n 0, 1) := by decide +kernel
theorem dX7_stateIn_1 : decode cX7_stateIn 1 = .ok (.aload_n 0, 1) := by decide +kernel
theorem dX7_stateIn_2 : decode cX7_stateIn 2 = .ok (.iload_n 1, 1) := by decide +kernel
theorem dX7_stateIn_3 : decode cX7_stateIn 3 = .ok (.invokevirtual 341, 3) := by decide +kernel
theorem dX7_stateIn_6 : decode cX7_stateIn 6 = .ok (.iload_n 2, 1) := by decide +kernel
theorem dX7_stateIn_7 : decode cX7_stateIn 7 = .ok (.invokestatic 393, 3) := by decide +kernel
theorem dX7_stateIn_10 : decode cX7_stateIn 10 = .ok (.invokevirtual 354, 3) := by decide +kernel
theorem dX7_stateIn_13 : decode cX7_stateIn 13 = .ok (.ifCond .eq 13, 3) := by decide +kernel
theorem dX7_stateIn_16 : decode cX7_stateIn 16 = .ok (.aload_n 0, 1) := by decide +kernel
theorem dX7_stateIn_17 : decode cX7_stateIn 17 = .ok (.iload_n 1, 1) := by decide +kernel
theorem dX7_stateIn_18 : decode cX7_stateIn 18 = .ok (.iconst 5, 1) := by decide +kernel
theorem dX7_stateIn_19 : decode cX7_stateIn 19 = .ok (.iload_n 2, 1) := by decide +kernel
theorem dX7_stateIn_20 : decode cX7_stateIn 20 = .ok (.invokevirtual 396, 3) := by decide +kernel
theorem dX7_stateIn_23 : decode cX7_stateIn 23 = .ok (.goto 4, 3) := by decide +kernel
theorem dX7_stateIn_26 : decode cX7_stateIn 26 = .ok (.iconst 0, 1) := by decide +kernel
theorem dX7_stateIn_27 : decode cX7_stateIn 27 = .ok (.ireturn, 1) := by decide +kernel
theorem dX7_energyIn_0 : decode cX7_energyIn 0 = .ok (.aload_n 0, 1) := by decide +kernel
theorem dX7_energyIn_1 : decode cX7_energyIn 1 = .ok (.aload_n 0, 1) := by decide +kernel
theorem dX7_energyIn_2 : decode cX7_energyIn 2 = .ok (.iload_n 1, 1) := by decide +kernel
theorem dX7_energyIn_3 : decode cX7_energyIn 3 = .ok (.invokevirtual 341, 3) := by decide +kernel
theorem dX7_energyIn_6 : decode cX7_energyIn 6 = .ok (.iload_n 2, 1) := by decide +kernel
theorem dX7_energyIn_7 : decode cX7_energyIn 7 = .ok (.invokestatic 393, 3) := by decide +kernel
theorem dX7_energyIn_10 : decode cX7_energyIn 10 = .ok (.invokevirtual 354, 3) := by decide +kernel
theorem dX7_energyIn_13 : decode cX7_energyIn 13 = .ok (.ifCond .eq 13, 3) := by decide +kernel
theorem dX7_energyIn_16 : decode cX7_energyIn 16 = .ok (.aload_n 0, 1) := by decide +kernel
theorem dX7_energyIn_17 : decode cX7_energyIn 17 = .ok (.iload_n 1, 1) := by decide +kernel
theorem dX7_energyIn_18 : decode cX7_energyIn 18 = .ok (.iconst 4, 1) := by decide +kernel
theorem dX7_energyIn_19 : decode cX7_energyIn 19 = .ok (.iload_n 2, 1) := by decide +kernel
theorem dX7_energyIn_20 : decode cX7_energyIn 20 = .ok (.invokevirtual 396, 3) := by decide +kernel
theorem dX7_energyIn_23 : decode cX7_energyIn 23 = .ok (.goto 4, 3) := by decide +kernel
theorem dX7_energyIn_26 : decode cX7_energyIn 26 = .ok (.iconst 0, 1) := by decide +kernel
theorem dX7_energyIn_27 : decode cX7_energyIn 27 = .ok (.ireturn, 1) := by decide +kernel
theorem dX7_collisionsBy_0 : decode cX7_collisionsBy 0 = .ok (.aload_n 0, 1) := by decide +kernel
theorem dX7_collisionsBy_1 : decode cX7_collisionsBy 1 = .ok (.getfield 20, 3) := by decide +kernel
theorem dX7_collisionsBy_4 : decode cX7_collisionsBy 4 = .ok (.bipush 6, 2) := by decide +kernel
theorem dX7_collisionsBy_6 : decode cX7_collisionsBy 6 = .ok (.iaload, 1) := by decide +kernel
theorem dX7_collisionsBy_7 : decode cX7_collisionsBy 7 = .ok (.istore_n 2, 1) := by decide +kernel
theorem dX7_collisionsBy_8 : decode cX7_collisionsBy 8 = .ok (.aload_n 0, 1) := by decide +kernel
theorem dX7_collisionsBy_9 : decode cX7_collisionsBy 9 = .ok (.iload_n 1, 1) := by decide +kernel
theorem dX7_collisionsBy_10 : decode cX7_collisionsBy 10 = .ok (.invokevirtual 387, 3) := by decide +kernel
theorem dX7_collisionsBy_13 : decode cX7_collisionsBy 13 = .ok (.istore_n 3, 1) := by decide +kernel
theorem dX7_collisionsBy_14 : decode cX7_collisionsBy 14 = .ok (.aload_n 0, 1) := by decide +kernel
theorem dX7_collisionsBy_15 : decode cX7_collisionsBy 15 = .ok (.getfield 20, 3) := by decide +kernel
theorem dX7_collisionsBy_18 : decode cX7_collisionsBy 18 = .ok (.bipush 6, 2) := by decide +kernel
theorem dX7_collisionsBy_20 : decode cX7_collisionsBy 20 = .ok (.iaload, 1) := by decide +kernel
theorem dX7_collisionsBy_21 : decode cX7_collisionsBy 21 = .ok (.iload_n 2, 1) := by decide +kernel
theorem dX7_collisionsBy_22 : decode cX7_collisionsBy 22 = .ok (.isub, 1) := by decide +kernel
theorem dX7_collisionsBy_23 : decode cX7_collisionsBy 23 = .ok (.ireturn, 1) := by decide +kernel
theorem dX7_collisionsIn_0 : decode cX7_collisionsIn 0 = .ok (.aload_n 0, 1) := by decide +kernel
theorem dX7_collisionsIn_1 : decode cX7_collisionsIn 1 = .ok (.iload_n 1, 1) := by decide +kernel
theorem dX7_collisionsIn_2 : decode cX7_collisionsIn 2 = .ok (.invokestatic 393, 3) := by decide +kernel
theorem dX7_collisionsIn_5 : decode cX7_collisionsIn 5 = .ok (.invokevirtual 76, 3) := by decide +kernel
theorem dX7_collisionsIn_8 : decode cX7_collisionsIn 8 = .ok (.ifCond .ne 5, 3) := by decide +kernel
theorem dX7_collisionsIn_11 : decode cX7_collisionsIn 11 = .ok (.iconst 0, 1) := by decide +kernel
theorem dX7_collisionsIn_12 : decode cX7_collisionsIn 12 = .ok (.ireturn, 1) := by decide +kernel
theorem dX7_collisionsIn_13 : decode cX7_collisionsIn 13 = .ok (.aload_n 0, 1) := by decide +kernel
theorem dX7_collisionsIn_14 : decode cX7_collisionsIn 14 = .ok (.invokevirtual 384, 3) := by decide +kernel
theorem dX7_collisionsIn_17 : decode cX7_collisionsIn 17 = .ok (.aload_n 0, 1) := by decide +kernel
theorem dX7_collisionsIn_18 : decode cX7_collisionsIn 18 = .ok (.aload_n 0, 1) := by decide +kernel
theorem dX7_collisionsIn_19 : decode cX7_collisionsIn 19 = .ok (.iload_n 1, 1) := by decide +kernel
theorem dX7_collisionsIn_20 : decode cX7_collisionsIn 20 = .ok (.invokevirtual 399, 3) := by decide +kernel
theorem dX7_collisionsIn_23 : decode cX7_collisionsIn 23 = .ok (.invokevirtual 390, 3) := by decide +kernel
theorem dX7_collisionsIn_26 : decode cX7_collisionsIn 26 = .ok (.ireturn, 1) := by decide +kernel
theorem dX7_knowsIn_0 : decode cX7_knowsIn 0 = .ok (.aload_n 0, 1) := by decide +kernel
theorem dX7_knowsIn_1 : decode cX7_knowsIn 1 = .ok (.aload_n 0, 1) := by decide +kernel
theorem dX7_knowsIn_2 : decode cX7_knowsIn 2 = .ok (.iload_n 1, 1) := by decide +kernel
theorem dX7_knowsIn_3 : decode cX7_knowsIn 3 = .ok (.iload_n 2, 1) := by decide +kernel
theorem dX7_knowsIn_4 : decode cX7_knowsIn 4 = .ok (.invokevirtual 370, 3) := by decide +kernel
theorem dX7_knowsIn_7 : decode cX7_knowsIn 7 = .ok (.invokevirtual 76, 3) := by decide +kernel
theorem dX7_knowsIn_10 : decode cX7_knowsIn 10 = .ok (.ifCond .ne 5, 3) := by decide +kernel
theorem dX7_knowsIn_13 : decode cX7_knowsIn 13 = .ok (.iconst 0, 1) := by decide +kernel
theorem dX7_knowsIn_14 : decode cX7_knowsIn 14 = .ok (.ireturn, 1) := by decide +kernel
theorem dX7_knowsIn_15 : decode cX7_knowsIn 15 = .ok (.aload_n 0, 1) := by decide +kernel
theorem dX7_knowsIn_16 : decode cX7_knowsIn 16 = .ok (.invokevirtual 384, 3) := by decide +kernel
theorem dX7_knowsIn_19 : decode cX7_knowsIn 19 = .ok (.iconst 0, 1) := by decide +kernel
theorem dX7_knowsIn_20 : decode cX7_knowsIn 20 = .ok (.istore_n 3, 1) := by decide +kernel
theorem dX7_knowsIn_21 : decode cX7_knowsIn 21 = .ok (.iload_n 3, 1) := by decide +kernel
theorem dX7_knowsIn_22 : decode cX7_knowsIn 22 = .ok (.sipush 300, 3) := by decide +kernel
theorem dX7_knowsIn_25 : decode cX7_knowsIn 25 = .ok (.if_icmp .ge 22, 3) := by decide +kernel
theorem dX7_knowsIn_28 : decode cX7_knowsIn 28 = .ok (.aload_n 0, 1) := by decide +kernel
theorem dX7_knowsIn_29 : decode cX7_knowsIn 29 = .ok (.iload_n 1, 1) := by decide +kernel
theorem dX7_knowsIn_30 : decode cX7_knowsIn 30 = .ok (.iload_n 2, 1) := by decide +kernel
theorem dX7_knowsIn_31 : decode cX7_knowsIn 31 = .ok (.invokevirtual 254, 3) := by decide +kernel
theorem dX7_knowsIn_34 : decode cX7_knowsIn 34 = .ok (.ifCond .ne 13, 3) := by decide +kernel
theorem dX7_knowsIn_37 : decode cX7_knowsIn 37 = .ok (.aload_n 0, 1) := by decide +kernel
theorem dX7_knowsIn_38 : decode cX7_knowsIn 38 = .ok (.invokevirtual 338, 3) := by decide +kernel
theorem dX7_knowsIn_41 : decode cX7_knowsIn 41 = .ok (.iinc 3 1, 3) := by decide +kernel
theorem dX7_knowsIn_44 : decode cX7_knowsIn 44 = .ok (.goto (-23), 3) := by decide +kernel
theorem dX7_knowsIn_47 : decode cX7_knowsIn 47 = .ok (.aload_n 0, 1) := by decide +kernel
theorem dX7_knowsIn_48 : decode cX7_knowsIn 48 = .ok (.aload_n 0, 1) := by decide +kernel
theorem dX7_knowsIn_49 : decode cX7_knowsIn 49 = .ok (.iload_n 1, 1) := by decide +kernel
theorem dX7_knowsIn_50 : decode cX7_knowsIn 50 = .ok (.iload_n 2, 1) := by decide +kernel
theorem dX7_knowsIn_51 : decode cX7_knowsIn 51 = .ok (.invokevirtual 254, 3) := by decide +kernel
theorem dX7_knowsIn_54 : decode cX7_knowsIn 54 = .ok (.ifCond .eq 7, 3) := by decide +kernel
theorem dX7_knowsIn_57 : decode cX7_knowsIn 57 = .ok (.iload_n 3, 1) := by decide +kernel
theorem dX7_knowsIn_58 : decode cX7_knowsIn 58 = .ok (.goto 4, 3) := by decide +kernel
theorem dX7_knowsIn_61 : decode cX7_knowsIn 61 = .ok (.iconst (-1), 1) := by decide +kernel
theorem dX7_knowsIn_62 : decode cX7_knowsIn 62 = .ok (.invokevirtual 390, 3) := by decide +kernel
theorem dX7_knowsIn_65 : decode cX7_knowsIn 65 = .ok (.ireturn, 1) := by decide +kernel
theorem dX7_allKnow_0 : decode cX7_allKnow 0 = .ok (.iconst 1, 1) := by decide +kernel
theorem dX7_allKnow_1 : decode cX7_allKnow 1 = .ok (.istore_n 1, 1) := by decide +kernel
theorem dX7_allKnow_2 : decode cX7_allKnow 2 = .ok (.iconst 0, 1) := by decide +kernel
theorem dX7_allKnow_3 : decode cX7_allKnow 3 = .ok (.istore_n 2, 1) := by decide +kernel
theorem dX7_allKnow_4 : decode cX7_allKnow 4 = .ok (.iload_n 2, 1) := by decide +kernel
theorem dX7_allKnow_5 : decode cX7_allKnow 5 = .ok (.aload_n 0, 1) := by decide +kernel
theorem dX7_allKnow_6 : decode cX7_allKnow 6 = .ok (.getfield 20, 3) := by decide +kernel
theorem dX7_allKnow_9 : decode cX7_allKnow 9 = .ok (.iconst 0, 1) := by decide +kernel
theorem dX7_allKnow_10 : decode cX7_allKnow 10 = .ok (.iaload, 1) := by decide +kernel
theorem dX7_allKnow_11 : decode cX7_allKnow 11 = .ok (.if_icmp .ge 27, 3) := by decide +kernel
theorem dX7_allKnow_14 : decode cX7_allKnow 14 = .ok (.iload_n 1, 1) := by decide +kernel
theorem dX7_allKnow_15 : decode cX7_allKnow 15 = .ok (.ifCond .eq 15, 3) := by decide +kernel
theorem dX7_allKnow_18 : decode cX7_allKnow 18 = .ok (.aload_n 0, 1) := by decide +kernel
theorem dX7_allKnow_19 : decode cX7_allKnow 19 = .ok (.iload_n 2, 1) := by decide +kernel
theorem dX7_allKnow_20 : decode cX7_allKnow 20 = .ok (.invokevirtual 279, 3) := by decide +kernel
theorem dX7_allKnow_23 : decode cX7_allKnow 23 = .ok (.ifCond .eq 7, 3) := by decide +kernel
theorem dX7_allKnow_26 : decode cX7_allKnow 26 = .ok (.iconst 1, 1) := by decide +kernel
theorem dX7_allKnow_27 : decode cX7_allKnow 27 = .ok (.goto 4, 3) := by decide +kernel
theorem dX7_allKnow_30 : decode cX7_allKnow 30 = .ok (.iconst 0, 1) := by decide +kernel
theorem dX7_allKnow_31 : decode cX7_allKnow 31 = .ok (.istore_n 1, 1) := by decide +kernel
theorem dX7_allKnow_32 : decode cX7_allKnow 32 = .ok (.iinc 2 1, 3) := by decide +kernel
theorem dX7_allKnow_35 : decode cX7_allKnow 35 = .ok (.goto (-31), 3) := by decide +kernel
theorem dX7_allKnow_38 : decode cX7_allKnow 38 = .ok (.iload_n 1, 1) := by decide +kernel
theorem dX7_allKnow_39 : decode cX7_allKnow 39 = .ok (.ireturn, 1) := by decide +kernel
theorem dX7_allKnownIn_0 : decode cX7_allKnownIn 0 = .ok (.aload_n 0, 1) := by decide +kernel
theorem dX7_allKnownIn_1 : decode cX7_allKnownIn 1 = .ok (.iconst 0, 1) := by decide +kernel
theorem dX7_allKnownIn_2 : decode cX7_allKnownIn 2 = .ok (.putfield 66, 3) := by decide +kernel
theorem dX7_allKnownIn_5 : decode cX7_allKnownIn 5 = .ok (.aload_n 0, 1) := by decide +kernel
theorem dX7_allKnownIn_6 : decode cX7_allKnownIn 6 = .ok (.invokevirtual 384, 3) := by decide +kernel
theorem dX7_allKnownIn_9 : decode cX7_allKnownIn 9 = .ok (.iconst 0, 1) := by decide +kernel
theorem dX7_allKnownIn_10 : decode cX7_allKnownIn 10 = .ok (.istore_n 1, 1) := by decide +kernel
theorem dX7_allKnownIn_11 : decode cX7_allKnownIn 11 = .ok (.iload_n 1, 1) := by decide +kernel
theorem dX7_allKnownIn_12 : decode cX7_allKnownIn 12 = .ok (.sipush 300, 3) := by decide +kernel
theorem dX7_allKnownIn_15 : decode cX7_allKnownIn 15 = .ok (.if_icmp .ge 20, 3) := by decide +kernel
theorem dX7_allKnownIn_18 : decode cX7_allKnownIn 18 = .ok (.aload_n 0, 1) := by decide +kernel
theorem dX7_allKnownIn_19 : decode cX7_allKnownIn 19 = .ok (.invokevirtual 402, 3) := by decide +kernel
theorem dX7_allKnownIn_22 : decode cX7_allKnownIn 22 = .ok (.ifCond .ne 13, 3) := by decide +kernel
theorem dX7_allKnownIn_25 : decode cX7_allKnownIn 25 = .ok (.aload_n 0, 1) := by decide +kernel
theorem dX7_allKnownIn_26 : decode cX7_allKnownIn 26 = .ok (.invokevirtual 338, 3) := by decide +kernel
theorem dX7_allKnownIn_29 : decode cX7_allKnownIn 29 = .ok (.iinc 1 1, 3) := by decide +kernel
theorem dX7_allKnownIn_32 : decode cX7_allKnownIn 32 = .ok (.goto (-21), 3) := by decide +kernel
theorem dX7_allKnownIn_35 : decode cX7_allKnownIn 35 = .ok (.aload_n 0, 1) := by decide +kernel
theorem dX7_allKnownIn_36 : decode cX7_allKnownIn 36 = .ok (.aload_n 0, 1) := by decide +kernel
theorem dX7_allKnownIn_37 : decode cX7_allKnownIn 37 = .ok (.invokevirtual 402, 3) := by decide +kernel
theorem dX7_allKnownIn_40 : decode cX7_allKnownIn 40 = .ok (.ifCond .eq 7, 3) := by decide +kernel
theorem dX7_allKnownIn_43 : decode cX7_allKnownIn 43 = .ok (.iload_n 1, 1) := by decide +kernel
theorem dX7_allKnownIn_44 : decode cX7_allKnownIn 44 = .ok (.goto 4, 3) := by decide +kernel
theorem dX7_allKnownIn_47 : decode cX7_allKnownIn 47 = .ok (.iconst (-1), 1) := by decide +kernel
theorem dX7_allKnownIn_48 : decode cX7_allKnownIn 48 = .ok (.invokevirtual 390, 3) := by decide +kernel
theorem dX7_allKnownIn_51 : decode cX7_allKnownIn 51 = .ok (.ireturn, 1) := by decide +kernel
theorem dX7_stateWithin_0 : decode cX7_stateWithin 0 = .ok (.aload_n 0, 1) := by decide +kernel
theorem dX7_stateWithin_1 : decode cX7_stateWithin 1 = .ok (.invokevirtual 384, 3) := by decide +kernel
theorem dX7_stateWithin_4 : decode cX7_stateWithin 4 = .ok (.iconst 0, 1) := by decide +kernel
theorem dX7_stateWithin_5 : decode cX7_stateWithin 5 = .ok (.istore_n 3, 1) := by decide +kernel
theorem dX7_stateWithin_6 : decode cX7_stateWithin 6 = .ok (.iload_n 3, 1) := by decide +kernel
theorem dX7_stateWithin_7 : decode cX7_stateWithin 7 = .ok (.sipush 300, 3) := by decide +kernel
theorem dX7_stateWithin_10 : decode cX7_stateWithin 10 = .ok (.if_icmp .ge 22, 3) := by decide +kernel
theorem dX7_stateWithin_13 : decode cX7_stateWithin 13 = .ok (.aload_n 0, 1) := by decide +kernel
theorem dX7_stateWithin_14 : decode cX7_stateWithin 14 = .ok (.iload_n 1, 1) := by decide +kernel
theorem dX7_stateWithin_15 : decode cX7_stateWithin 15 = .ok (.iload_n 2, 1) := by decide +kernel
theorem dX7_stateWithin_16 : decode cX7_stateWithin 16 = .ok (.invokevirtual 297, 3) := by decide +kernel
theorem dX7_stateWithin_19 : decode cX7_stateWithin 19 = .ok (.ifCond .ne 13, 3) := by decide +kernel
theorem dX7_stateWithin_22 : decode cX7_stateWithin 22 = .ok (.aload_n 0, 1) := by decide +kernel
theorem dX7_stateWithin_23 : decode cX7_stateWithin 23 = .ok (.invokevirtual 338, 3) := by decide +kernel
theorem dX7_stateWithin_26 : decode cX7_stateWithin 26 = .ok (.iinc 3 1, 3) := by decide +kernel
theorem dX7_stateWithin_29 : decode cX7_stateWithin 29 = .ok (.goto (-23), 3) := by decide +kernel
theorem dX7_stateWithin_32 : decode cX7_stateWithin 32 = .ok (.aload_n 0, 1) := by decide +kernel
theorem dX7_stateWithin_33 : decode cX7_stateWithin 33 = .ok (.aload_n 0, 1) := by decide +kernel
theorem dX7_stateWithin_34 : decode cX7_stateWithin 34 = .ok (.iload_n 1, 1) := by decide +kernel
theorem dX7_stateWithin_35 : decode cX7_stateWithin 35 = .ok (.iload_n 2, 1) := by decide +kernel
theorem dX7_stateWithin_36 : decode cX7_stateWithin 36 = .ok (.invokevirtual 297, 3) := by decide +kernel
theorem dX7_stateWithin_39 : decode cX7_stateWithin 39 = .ok (.ifCond .eq 7, 3) := by decide +kernel
theorem dX7_stateWithin_42 : decode cX7_stateWithin 42 = .ok (.iload_n 3, 1) := by decide +kernel
theorem dX7_stateWithin_43 : decode cX7_stateWithin 43 = .ok (.goto 4, 3) := by decide +kernel
theorem dX7_stateWithin_46 : decode cX7_stateWithin 46 = .ok (.iconst (-1), 1) := by decide +kernel
theorem dX7_stateWithin_47 : decode cX7_stateWithin 47 = .ok (.invokevirtual 390, 3) := by decide +kernel
theorem dX7_stateWithin_50 : decode cX7_stateWithin 50 = .ok (.ireturn, 1) := by decide +kernel
theorem dX7_outIn_0 : decode cX7_outIn 0 = .ok (.aload_n 0, 1) := by decide +kernel
theorem dX7_outIn_1 : decode cX7_outIn 1 = .ok (.aload_n 0, 1) := by decide +kernel
theorem dX7_outIn_2 : decode cX7_outIn 2 = .ok (.iload_n 1, 1) := by decide +kernel
theorem dX7_outIn_3 : decode cX7_outIn 3 = .ok (.invokevirtual 341, 3) := by decide +kernel
theorem dX7_outIn_6 : decode cX7_outIn 6 = .ok (.invokevirtual 76, 3) := by decide +kernel
theorem dX7_outIn_9 : decode cX7_outIn 9 = .ok (.ifCond .eq 12, 3) := by decide +kernel
theorem dX7_outIn_12 : decode cX7_outIn 12 = .ok (.aload_n 0, 1) := by decide +kernel
theorem dX7_outIn_13 : decode cX7_outIn 13 = .ok (.iload_n 1, 1) := by decide +kernel
theorem dX7_outIn_14 : decode cX7_outIn 14 = .ok (.iconst 4, 1) := by decide +kernel
theorem dX7_outIn_15 : decode cX7_outIn 15 = .ok (.invokevirtual 405, 3) := by decide +kernel
theorem dX7_outIn_18 : decode cX7_outIn 18 = .ok (.goto 4, 3) := by decide +kernel
theorem dX7_outIn_21 : decode cX7_outIn 21 = .ok (.iconst 0, 1) := by decide +kernel
theorem dX7_outIn_22 : decode cX7_outIn 22 = .ok (.ireturn, 1) := by decide +kernel
theorem dX7_sendsIn_0 : decode cX7_sendsIn 0 = .ok (.aload_n 0, 1) := by decide +kernel
theorem dX7_sendsIn_1 : decode cX7_sendsIn 1 = .ok (.aload_n 0, 1) := by decide +kernel
theorem dX7_sendsIn_2 : decode cX7_sendsIn 2 = .ok (.iload_n 1, 1) := by decide +kernel
theorem dX7_sendsIn_3 : decode cX7_sendsIn 3 = .ok (.invokevirtual 341, 3) := by decide +kernel
theorem dX7_sendsIn_6 : decode cX7_sendsIn 6 = .ok (.invokevirtual 76, 3) := by decide +kernel
theorem dX7_sendsIn_9 : decode cX7_sendsIn 9 = .ok (.ifCond .ne 5, 3) := by decide +kernel
theorem dX7_sendsIn_12 : decode cX7_sendsIn 12 = .ok (.iconst 0, 1) := by decide +kernel
theorem dX7_sendsIn_13 : decode cX7_sendsIn 13 = .ok (.ireturn, 1) := by decide +kernel
theorem dX7_sendsIn_14 : decode cX7_sendsIn 14 = .ok (.aload_n 0, 1) := by decide +kernel
theorem dX7_sendsIn_15 : decode cX7_sendsIn 15 = .ok (.iload_n 1, 1) := by decide +kernel
theorem dX7_sendsIn_16 : decode cX7_sendsIn 16 = .ok (.iconst 3, 1) := by decide +kernel
theorem dX7_sendsIn_17 : decode cX7_sendsIn 17 = .ok (.invokevirtual 297, 3) := by decide +kernel
theorem dX7_sendsIn_20 : decode cX7_sendsIn 20 = .ok (.ifCond .eq 5, 3) := by decide +kernel
theorem dX7_sendsIn_23 : decode cX7_sendsIn 23 = .ok (.iconst 0, 1) := by decide +kernel
theorem dX7_sendsIn_24 : decode cX7_sendsIn 24 = .ok (.ireturn, 1) := by decide +kernel
theorem dX7_sendsIn_25 : decode cX7_sendsIn 25 = .ok (.aload_n 0, 1) := by decide +kernel
theorem dX7_sendsIn_26 : decode cX7_sendsIn 26 = .ok (.invokevirtual 384, 3) := by decide +kernel
theorem dX7_sendsIn_29 : decode cX7_sendsIn 29 = .ok (.iconst 1, 1) := by decide +kernel
theorem dX7_sendsIn_30 : decode cX7_sendsIn 30 = .ok (.istore_n 2, 1) := by decide +kernel
theorem dX7_sendsIn_31 : decode cX7_sendsIn 31 = .ok (.iload_n 2, 1) := by decide +kernel
theorem dX7_sendsIn_32 : decode cX7_sendsIn 32 = .ok (.sipush 300, 3) := by decide +kernel
theorem dX7_sendsIn_35 : decode cX7_sendsIn 35 = .ok (.if_icmp .gt 33, 3) := by decide +kernel
theorem dX7_sendsIn_38 : decode cX7_sendsIn 38 = .ok (.aload_n 0, 1) := by decide +kernel
theorem dX7_sendsIn_39 : decode cX7_sendsIn 39 = .ok (.invokevirtual 338, 3) := by decide +kernel
theorem dX7_sendsIn_42 : decode cX7_sendsIn 42 = .ok (.aload_n 0, 1) := by decide +kernel
theorem dX7_sendsIn_43 : decode cX7_sendsIn 43 = .ok (.getfield 20, 3) := by decide +kernel
theorem dX7_sendsIn_46 : decode cX7_sendsIn 46 = .ok (.bipush 12, 2) := by decide +kernel
theorem dX7_sendsIn_48 : decode cX7_sendsIn 48 = .ok (.iaload, 1) := by decide +kernel
theorem dX7_sendsIn_49 : decode cX7_sendsIn 49 = .ok (.iload_n 1, 1) := by decide +kernel
theorem dX7_sendsIn_50 : decode cX7_sendsIn 50 = .ok (.invokestatic 180, 3) := by decide +kernel
theorem dX7_sendsIn_53 : decode cX7_sendsIn 53 = .ok (.ifCond .eq 9, 3) := by decide +kernel
theorem dX7_sendsIn_56 : decode cX7_sendsIn 56 = .ok (.aload_n 0, 1) := by decide +kernel
theorem dX7_sendsIn_57 : decode cX7_sendsIn 57 = .ok (.iload_n 2, 1) := by decide +kernel
theorem dX7_sendsIn_58 : decode cX7_sendsIn 58 = .ok (.invokevirtual 390, 3) := by decide +kernel
theorem dX7_sendsIn_61 : decode cX7_sendsIn 61 = .ok (.ireturn, 1) := by decide +kernel
theorem dX7_sendsIn_62 : decode cX7_sendsIn 62 = .ok (.iinc 2 1, 3) := by decide +kernel
theorem dX7_sendsIn_65 : decode cX7_sendsIn 65 = .ok (.goto (-34), 3) := by decide +kernel
theorem dX7_sendsIn_68 : decode cX7_sendsIn 68 = .ok (.aload_n 0, 1) := by decide +kernel
theorem dX7_sendsIn_69 : decode cX7_sendsIn 69 = .ok (.iconst (-1), 1) := by decide +kernel
theorem dX7_sendsIn_70 : decode cX7_sendsIn 70 = .ok (.invokevirtual 390, 3) := by decide +kernel
theorem dX7_sendsIn_73 : decode cX7_sendsIn 73 = .ok (.ireturn, 1) := by decide +kernel
theorem dX7_wellIn_0 : decode cX7_wellIn 0 = .ok (.aload_n 0, 1) := by decide +kernel
theorem dX7_wellIn_1 : decode cX7_wellIn 1 = .ok (.aload_n 0, 1) := by decide +kernel
theorem dX7_wellIn_2 : decode cX7_wellIn 2 = .ok (.iload_n 1, 1) := by decide +kernel
theorem dX7_wellIn_3 : decode cX7_wellIn 3 = .ok (.invokevirtual 341, 3) := by decide +kernel
theorem dX7_wellIn_6 : decode cX7_wellIn 6 = .ok (.invokevirtual 76, 3) := by decide +kernel
theorem dX7_wellIn_9 : decode cX7_wellIn 9 = .ok (.ifCond .ne 5, 3) := by decide +kernel
theorem dX7_wellIn_12 : decode cX7_wellIn 12 = .ok (.iconst 0, 1) := by decide +kernel
theorem dX7_wellIn_13 : decode cX7_wellIn 13 = .ok (.ireturn, 1) := by decide +kernel
theorem dX7_wellIn_14 : decode cX7_wellIn 14 = .ok (.aload_n 0, 1) := by decide +kernel
theorem dX7_wellIn_15 : decode cX7_wellIn 15 = .ok (.invokevirtual 384, 3) := by decide +kernel
theorem dX7_wellIn_18 : decode cX7_wellIn 18 = .ok (.aload_n 0, 1) := by decide +kernel
theorem dX7_wellIn_19 : decode cX7_wellIn 19 = .ok (.iload_n 1, 1) := by decide +kernel
theorem dX7_wellIn_20 : decode cX7_wellIn 20 = .ok (.bipush 11, 2) := by decide +kernel
theorem dX7_wellIn_22 : decode cX7_wellIn 22 = .ok (.invokevirtual 251, 3) := by decide +kernel
theorem dX7_wellIn_25 : decode cX7_wellIn 25 = .ok (.istore_n 2, 1) := by decide +kernel
theorem dX7_wellIn_26 : decode cX7_wellIn 26 = .ok (.iconst 1, 1) := by decide +kernel
theorem dX7_wellIn_27 : decode cX7_wellIn 27 = .ok (.istore_n 3, 1) := by decide +kernel
theorem dX7_wellIn_28 : decode cX7_wellIn 28 = .ok (.iload_n 3, 1) := by decide +kernel
theorem dX7_wellIn_29 : decode cX7_wellIn 29 = .ok (.sipush 300, 3) := by decide +kernel
theorem dX7_wellIn_32 : decode cX7_wellIn 32 = .ok (.if_icmp .gt 30, 3) := by decide +kernel
theorem dX7_wellIn_35 : decode cX7_wellIn 35 = .ok (.aload_n 0, 1) := by decide +kernel
theorem dX7_wellIn_36 : decode cX7_wellIn 36 = .ok (.invokevirtual 338, 3) := by decide +kernel
theorem dX7_wellIn_39 : decode cX7_wellIn 39 = .ok (.aload_n 0, 1) := by decide +kernel
theorem dX7_wellIn_40 : decode cX7_wellIn 40 = .ok (.iload_n 1, 1) := by decide +kernel
theorem dX7_wellIn_41 : decode cX7_wellIn 41 = .ok (.bipush 11, 2) := by decide +kernel
theorem dX7_wellIn_43 : decode cX7_wellIn 43 = .ok (.invokevirtual 251, 3) := by decide +kernel
theorem dX7_wellIn_46 : decode cX7_wellIn 46 = .ok (.iload_n 2, 1) := by decide +kernel
theorem dX7_wellIn_47 : decode cX7_wellIn 47 = .ok (.if_icmp .le 9, 3) := by decide +kernel
theorem dX7_wellIn_50 : decode cX7_wellIn 50 = .ok (.aload_n 0, 1) := by decide +kernel
theorem dX7_wellIn_51 : decode cX7_wellIn 51 = .ok (.iload_n 3, 1) := by decide +kernel
theorem dX7_wellIn_52 : decode cX7_wellIn 52 = .ok (.invokevirtual 390, 3) := by decide +kernel
theorem dX7_wellIn_55 : decode cX7_wellIn 55 = .ok (.ireturn, 1) := by decide +kernel
theorem dX7_wellIn_56 : decode cX7_wellIn 56 = .ok (.iinc 3 1, 3) := by decide +kernel
theorem dX7_wellIn_59 : decode cX7_wellIn 59 = .ok (.goto (-31), 3) := by decide +kernel
theorem dX7_wellIn_62 : decode cX7_wellIn 62 = .ok (.aload_n 0, 1) := by decide +kernel
theorem dX7_wellIn_63 : decode cX7_wellIn 63 = .ok (.iconst (-1), 1) := by decide +kernel
theorem dX7_wellIn_64 : decode cX7_wellIn 64 = .ok (.invokevirtual 390, 3) := by decide +kernel
theorem dX7_wellIn_67 : decode cX7_wellIn 67 = .ok (.ireturn, 1) := by decide +kernel
theorem dX7_byFirst_0 : decode cX7_byFirst 0 = .ok (.aload_n 0, 1) := by decide +kernel
theorem dX7_byFirst_1 : decode cX7_byFirst 1 = .ok (.invokevirtual 384, 3) := by decide +kernel
theorem dX7_byFirst_4 : decode cX7_byFirst 4 = .ok (.aload_n 0, 1) := by decide +kernel
theorem dX7_byFirst_5 : decode cX7_byFirst 5 = .ok (.iload_n 1, 1) := by decide +kernel
theorem dX7_byFirst_6 : decode cX7_byFirst 6 = .ok (.iconst 1, 1) := by decide +kernel
theorem dX7_byFirst_7 : decode cX7_byFirst 7 = .ok (.iload_n 2, 1) := by decide +kernel
theorem dX7_byFirst_8 : decode cX7_byFirst 8 = .ok (.invokevirtual 148, 3) := by decide +kernel
theorem dX7_byFirst_11 : decode cX7_byFirst 11 = .ok (.aload_n 0, 1) := by decide +kernel
theorem dX7_byFirst_12 : decode cX7_byFirst 12 = .ok (.aload_n 0, 1) := by decide +kernel
theorem dX7_byFirst_13 : decode cX7_byFirst 13 = .ok (.bipush 100, 2) := by decide +kernel
theorem dX7_byFirst_15 : decode cX7_byFirst 15 = .ok (.invokevirtual 399, 3) := by decide +kernel
theorem dX7_byFirst_18 : decode cX7_byFirst 18 = .ok (.invokevirtual 390, 3) := by decide +kernel
theorem dX7_byFirst_21 : decode cX7_byFirst 21 = .ok (.ireturn, 1) := by decide +kernel
theorem dX7_bestAt_0 : decode cX7_bestAt 0 = .ok (.aload_n 0, 1) := by decide +kernel
theorem dX7_bestAt_1 : decode cX7_bestAt 1 = .ok (.aload_n 0, 1) := by decide +kernel
theorem dX7_bestAt_2 : decode cX7_bestAt 2 = .ok (.iload_n 1, 1) := by decide +kernel
theorem dX7_bestAt_3 : decode cX7_bestAt 3 = .ok (.invokevirtual 341, 3) := by decide +kernel
theorem dX7_bestAt_6 : decode cX7_bestAt 6 = .ok (.invokevirtual 76, 3) := by decide +kernel
theorem dX7_bestAt_9 : decode cX7_bestAt 9 = .ok (.ifCond .ne 5, 3) := by decide +kernel
theorem dX7_bestAt_12 : decode cX7_bestAt 12 = .ok (.iconst 0, 1) := by decide +kernel
theorem dX7_bestAt_13 : decode cX7_bestAt 13 = .ok (.ireturn, 1) := by decide +kernel
theorem dX7_bestAt_14 : decode cX7_bestAt 14 = .ok (.iconst 0, 1) := by decide +kernel
theorem dX7_bestAt_15 : decode cX7_bestAt 15 = .ok (.istore_n 2, 1) := by decide +kernel
theorem dX7_bestAt_16 : decode cX7_bestAt 16 = .ok (.aload_n 0, 1) := by decide +kernel
theorem dX7_bestAt_17 : decode cX7_bestAt 17 = .ok (.iload_n 1, 1) := by decide +kernel
theorem dX7_bestAt_18 : decode cX7_bestAt 18 = .ok (.iconst 0, 1) := by decide +kernel
theorem dX7_bestAt_19 : decode cX7_bestAt 19 = .ok (.invokevirtual 408, 3) := by decide +kernel
theorem dX7_bestAt_22 : decode cX7_bestAt 22 = .ok (.istore_n 3, 1) := by decide +kernel
theorem dX7_bestAt_23 : decode cX7_bestAt 23 = .ok (.iconst 1, 1) := by decide +kernel
theorem dX7_bestAt_24 : decode cX7_bestAt 24 = .ok (.istore 4, 2) := by decide +kernel
theorem dX7_bestAt_26 : decode cX7_bestAt 26 = .ok (.iload 4, 2) := by decide +kernel
theorem dX7_bestAt_28 : decode cX7_bestAt 28 = .ok (.aload_n 0, 1) := by decide +kernel
theorem dX7_bestAt_29 : decode cX7_bestAt 29 = .ok (.iload_n 1, 1) := by decide +kernel
theorem dX7_bestAt_30 : decode cX7_bestAt 30 = .ok (.iconst 0, 1) := by decide +kernel
theorem dX7_bestAt_31 : decode cX7_bestAt 31 = .ok (.invokevirtual 251, 3) := by decide +kernel
theorem dX7_bestAt_34 : decode cX7_bestAt 34 = .ok (.if_icmp .ge 33, 3) := by decide +kernel
theorem dX7_bestAt_37 : decode cX7_bestAt 37 = .ok (.aload_n 0, 1) := by decide +kernel
theorem dX7_bestAt_38 : decode cX7_bestAt 38 = .ok (.iload_n 1, 1) := by decide +kernel
theorem dX7_bestAt_39 : decode cX7_bestAt 39 = .ok (.iload 4, 2) := by decide +kernel
theorem dX7_bestAt_41 : decode cX7_bestAt 41 = .ok (.invokevirtual 408, 3) := by decide +kernel
theorem dX7_bestAt_44 : decode cX7_bestAt 44 = .ok (.istore 5, 2) := by decide +kernel
theorem dX7_bestAt_46 : decode cX7_bestAt 46 = .ok (.iload 5, 2) := by decide +kernel
theorem dX7_bestAt_48 : decode cX7_bestAt 48 = .ok (.iload_n 3, 1) := by decide +kernel
theorem dX7_bestAt_49 : decode cX7_bestAt 49 = .ok (.if_icmp .lt 6, 3) := by decide +kernel
theorem dX7_bestAt_52 : decode cX7_bestAt 52 = .ok (.goto 9, 3) := by decide +kernel
theorem dX7_bestAt_55 : decode cX7_bestAt 55 = .ok (.iload 5, 2) := by decide +kernel
theorem dX7_bestAt_57 : decode cX7_bestAt 57 = .ok (.istore_n 3, 1) := by decide +kernel
theorem dX7_bestAt_58 : decode cX7_bestAt 58 = .ok (.iload 4, 2) := by decide +kernel
theorem dX7_bestAt_60 : decode cX7_bestAt 60 = .ok (.istore_n 2, 1) := by decide +kernel
theorem dX7_bestAt_61 : decode cX7_bestAt 61 = .ok (.iinc 4 1, 3) := by decide +kernel
theorem dX7_bestAt_64 : decode cX7_bestAt 64 = .ok (.goto (-38), 3) := by decide +kernel
theorem dX7_bestAt_67 : decode cX7_bestAt 67 = .ok (.iload_n 2, 1) := by decide +kernel
theorem dX7_bestAt_68 : decode cX7_bestAt 68 = .ok (.ireturn, 1) := by decide +kernel
theorem dX7_byPeriod_0 : decode cX7_byPeriod 0 = .ok (.aload_n 0, 1) := by decide +kernel
theorem dX7_byPeriod_1 : decode cX7_byPeriod 1 = .ok (.invokevirtual 384, 3) := by decide +kernel
theorem dX7_byPeriod_4 : decode cX7_byPeriod 4 = .ok (.aload_n 0, 1) := by decide +kernel
theorem dX7_byPeriod_5 : decode cX7_byPeriod 5 = .ok (.iload_n 1, 1) := by decide +kernel
theorem dX7_byPeriod_6 : decode cX7_byPeriod 6 = .ok (.iconst 0, 1) := by decide +kernel
theorem dX7_byPeriod_7 : decode cX7_byPeriod 7 = .ok (.iload_n 2, 1) := by decide +kernel
theorem dX7_byPeriod_8 : decode cX7_byPeriod 8 = .ok (.invokevirtual 148, 3) := by decide +kernel
theorem dX7_byPeriod_11 : decode cX7_byPeriod 11 = .ok (.aload_n 0, 1) := by decide +kernel
theorem dX7_byPeriod_12 : decode cX7_byPeriod 12 = .ok (.aload_n 0, 1) := by decide +kernel
theorem dX7_byPeriod_13 : decode cX7_byPeriod 13 = .ok (.bipush 100, 2) := by decide +kernel
theorem dX7_byPeriod_15 : decode cX7_byPeriod 15 = .ok (.invokevirtual 387, 3) := by decide +kernel
theorem dX7_byPeriod_18 : decode cX7_byPeriod 18 = .ok (.invokevirtual 390, 3) := by decide +kernel
theorem dX7_byPeriod_21 : decode cX7_byPeriod 21 = .ok (.ireturn, 1) := by decide +kernel
theorem dX7_bestEvery_0 : decode cX7_bestEvery 0 = .ok (.aload_n 0, 1) := by decide +kernel
theorem dX7_bestEvery_1 : decode cX7_bestEvery 1 = .ok (.aload_n 0, 1) := by decide +kernel
theorem dX7_bestEvery_2 : decode cX7_bestEvery 2 = .ok (.iload_n 1, 1) := by decide +kernel
theorem dX7_bestEvery_3 : decode cX7_bestEvery 3 = .ok (.invokevirtual 341, 3) := by decide +kernel
theorem dX7_bestEvery_6 : decode cX7_bestEvery 6 = .ok (.invokevirtual 76, 3) := by decide +kernel
theorem dX7_bestEvery_9 : decode cX7_bestEvery 9 = .ok (.ifCond .ne 5, 3) := by decide +kernel
theorem dX7_bestEvery_12 : decode cX7_bestEvery 12 = .ok (.iconst 0, 1) := by decide +kernel
theorem dX7_bestEvery_13 : decode cX7_bestEvery 13 = .ok (.ireturn, 1) := by decide +kernel
theorem dX7_bestEvery_14 : decode cX7_bestEvery 14 = .ok (.iconst (-1), 1) := by decide +kernel
theorem dX7_bestEvery_15 : decode cX7_bestEvery 15 = .ok (.istore_n 2, 1) := by decide +kernel
theorem dX7_bestEvery_16 : decode cX7_bestEvery 16 = .ok (.iconst (-1), 1) := by decide +kernel
theorem dX7_bestEvery_17 : decode cX7_bestEvery 17 = .ok (.istore_n 3, 1) := by decide +kernel
theorem dX7_bestEvery_18 : decode cX7_bestEvery 18 = .ok (.iconst 2, 1) := by decide +kernel
theorem dX7_bestEvery_19 : decode cX7_bestEvery 19 = .ok (.aload_n 0, 1) := by decide +kernel
theorem dX7_bestEvery_20 : decode cX7_bestEvery 20 = .ok (.iload_n 1, 1) := by decide +kernel
theorem dX7_bestEvery_21 : decode cX7_bestEvery 21 = .ok (.iconst 1, 1) := by decide +kernel
theorem dX7_bestEvery_22 : decode cX7_bestEvery 22 = .ok (.invokevirtual 251, 3) := by decide +kernel
theorem dX7_bestEvery_25 : decode cX7_bestEvery 25 = .ok (.iconst 1, 1) := by decide +kernel
theorem dX7_bestEvery_26 : decode cX7_bestEvery 26 = .ok (.iadd, 1) := by decide +kernel
theorem dX7_bestEvery_27 : decode cX7_bestEvery 27 = .ok (.invokestatic 411, 3) := by decide +kernel
theorem dX7_bestEvery_30 : decode cX7_bestEvery 30 = .ok (.istore 4, 2) := by decide +kernel
theorem dX7_bestEvery_32 : decode cX7_bestEvery 32 = .ok (.iload 4, 2) := by decide +kernel
theorem dX7_bestEvery_34 : decode cX7_bestEvery 34 = .ok (.bipush 100, 2) := by decide +kernel
theorem dX7_bestEvery_36 : decode cX7_bestEvery 36 = .ok (.if_icmp .ge 33, 3) := by decide +kernel
theorem dX7_bestEvery_39 : decode cX7_bestEvery 39 = .ok (.aload_n 0, 1) := by decide +kernel
theorem dX7_bestEvery_40 : decode cX7_bestEvery 40 = .ok (.iload_n 1, 1) := by decide +kernel
theorem dX7_bestEvery_41 : decode cX7_bestEvery 41 = .ok (.iload 4, 2) := by decide +kernel
theorem dX7_bestEvery_43 : decode cX7_bestEvery 43 = .ok (.invokevirtual 414, 3) := by decide +kernel
theorem dX7_bestEvery_46 : decode cX7_bestEvery 46 = .ok (.istore 5, 2) := by decide +kernel
theorem dX7_bestEvery_48 : decode cX7_bestEvery 48 = .ok (.iload 5, 2) := by decide +kernel
theorem dX7_bestEvery_50 : decode cX7_bestEvery 50 = .ok (.iload_n 3, 1) := by decide +kernel
theorem dX7_bestEvery_51 : decode cX7_bestEvery 51 = .ok (.if_icmp .ge 6, 3) := by decide +kernel
theorem dX7_bestEvery_54 : decode cX7_bestEvery 54 = .ok (.goto 9, 3) := by decide +kernel
theorem dX7_bestEvery_57 : decode cX7_bestEvery 57 = .ok (.iload 5, 2) := by decide +kernel
theorem dX7_bestEvery_59 : decode cX7_bestEvery 59 = .ok (.istore_n 3, 1) := by decide +kernel
theorem dX7_bestEvery_60 : decode cX7_bestEvery 60 = .ok (.iload 4, 2) := by decide +kernel
theorem dX7_bestEvery_62 : decode cX7_bestEvery 62 = .ok (.istore_n 2, 1) := by decide +kernel
theorem dX7_bestEvery_63 : decode cX7_bestEvery 63 = .ok (.iinc 4 1, 3) := by decide +kernel
theorem dX7_bestEvery_66 : decode cX7_bestEvery 66 = .ok (.goto (-34), 3) := by decide +kernel
theorem dX7_bestEvery_69 : decode cX7_bestEvery 69 = .ok (.iload_n 2, 1) := by decide +kernel
theorem dX7_bestEvery_70 : decode cX7_bestEvery 70 = .ok (.ireturn, 1) := by decide +kernel
theorem dX7_mayRun_0 : decode cX7_mayRun 0 = .ok (.aload_n 0, 1) := by decide +kernel
theorem dX7_mayRun_1 : decode cX7_mayRun 1 = .ok (.getfield 20, 3) := by decide +kernel
theorem dX7_mayRun_4 : decode cX7_mayRun 4 = .ok (.iconst 1, 1) := by decide +kernel
theorem dX7_mayRun_5 : decode cX7_mayRun 5 = .ok (.iaload, 1) := by decide +kernel
theorem dX7_mayRun_6 : decode cX7_mayRun 6 = .ok (.iload_n 1, 1) := by decide +kernel
theorem dX7_mayRun_7 : decode cX7_mayRun 7 = .ok (.iadd, 1) := by decide +kernel
theorem dX7_mayRun_8 : decode cX7_mayRun 8 = .ok (.ldc_w 417, 3) := by decide +kernel
theorem dX7_mayRun_11 : decode cX7_mayRun 11 = .ok (.if_icmp .gt 7, 3) := by decide +kernel
theorem dX7_mayRun_14 : decode cX7_mayRun 14 = .ok (.iconst 1, 1) := by decide +kernel
theorem dX7_mayRun_15 : decode cX7_mayRun 15 = .ok (.goto 4, 3) := by decide +kernel
theorem dX7_mayRun_18 : decode cX7_mayRun 18 = .ok (.iconst 0, 1) := by decide +kernel
theorem dX7_mayRun_19 : decode cX7_mayRun 19 = .ok (.ireturn, 1) := by decide +kernel
theorem dX7_areMany_0 : decode cX7_areMany 0 = .ok (.iload_n 0, 1) := by decide +kernel
theorem dX7_areMany_1 : decode cX7_areMany 1 = .ok (.i2l, 1) := by decide +kernel
theorem dX7_areMany_2 : decode cX7_areMany 2 = .ok (.lconst 1, 1) := by decide +kernel
theorem dX7_areMany_3 : decode cX7_areMany 3 = .ok (.ldc2_w 418, 3) := by decide +kernel
theorem dX7_areMany_6 : decode cX7_areMany 6 = .ok (.invokestatic 84, 3) := by decide +kernel
theorem dX7_areMany_9 : decode cX7_areMany 9 = .ok (.ireturn, 1) := by decide +kernel
theorem dX7_run_0 : decode cX7_run 0 = .ok (.iload_n 1, 1) := by decide +kernel
theorem dX7_run_1 : decode cX7_run 1 = .ok (.invokestatic 420, 3) := by decide +kernel
theorem dX7_run_4 : decode cX7_run 4 = .ok (.istore_n 2, 1) := by decide +kernel
theorem dX7_run_5 : decode cX7_run 5 = .ok (.aload_n 0, 1) := by decide +kernel
theorem dX7_run_6 : decode cX7_run 6 = .ok (.iload_n 2, 1) := by decide +kernel
theorem dX7_run_7 : decode cX7_run 7 = .ok (.iload_n 2, 1) := by decide +kernel
theorem dX7_run_8 : decode cX7_run 8 = .ok (.ifCond .eq 15, 3) := by decide +kernel
theorem dX7_run_11 : decode cX7_run 11 = .ok (.aload_n 0, 1) := by decide +kernel
theorem dX7_run_12 : decode cX7_run 12 = .ok (.iload_n 1, 1) := by decide +kernel
theorem dX7_run_13 : decode cX7_run 13 = .ok (.invokevirtual 423, 3) := by decide +kernel
theorem dX7_run_16 : decode cX7_run 16 = .ok (.ifCond .eq 7, 3) := by decide +kernel
theorem dX7_run_19 : decode cX7_run 19 = .ok (.iconst 1, 1) := by decide +kernel
theorem dX7_run_20 : decode cX7_run 20 = .ok (.goto 4, 3) := by decide +kernel
theorem dX7_run_23 : decode cX7_run 23 = .ok (.iconst 0, 1) := by decide +kernel
theorem dX7_run_24 : decode cX7_run 24 = .ok (.invokevirtual 354, 3) := by decide +kernel
theorem dX7_run_27 : decode cX7_run 27 = .ok (.ifCond .ne 5, 3) := by decide +kernel
theorem dX7_run_30 : decode cX7_run 30 = .ok (.iconst 0, 1) := by decide +kernel
theorem dX7_run_31 : decode cX7_run 31 = .ok (.ireturn, 1) := by decide +kernel
theorem dX7_run_32 : decode cX7_run 32 = .ok (.aload_n 0, 1) := by decide +kernel
theorem dX7_run_33 : decode cX7_run 33 = .ok (.invokevirtual 242, 3) := by decide +kernel
theorem dX7_run_36 : decode cX7_run 36 = .ok (.aload_n 0, 1) := by decide +kernel
theorem dX7_run_37 : decode cX7_run 37 = .ok (.aload_n 0, 1) := by decide +kernel
theorem dX7_run_38 : decode cX7_run 38 = .ok (.iload_n 1, 1) := by decide +kernel
theorem dX7_run_39 : decode cX7_run 39 = .ok (.invokevirtual 387, 3) := by decide +kernel
theorem dX7_run_42 : decode cX7_run 42 = .ok (.invokevirtual 426, 3) := by decide +kernel
theorem dX7_run_45 : decode cX7_run 45 = .ok (.ireturn, 1) := by decide +kernel
theorem dX7_awakens_0 : decode cX7_awakens 0 = .ok (.aload_n 0, 1) := by decide +kernel
theorem dX7_awakens_1 : decode cX7_awakens 1 = .ok (.iload_n 1, 1) := by decide +kernel
theorem dX7_awakens_2 : decode cX7_awakens 2 = .ok (.invokevirtual 282, 3) := by decide +kernel
theorem dX7_awakens_5 : decode cX7_awakens 5 = .ok (.aload_n 0, 1) := by decide +kernel
theorem dX7_awakens_6 : decode cX7_awakens 6 = .ok (.getfield 20, 3) := by decide +kernel
theorem dX7_awakens_9 : decode cX7_awakens 9 = .ok (.iconst 1, 1) := by decide +kernel
theorem dX7_awakens_10 : decode cX7_awakens 10 = .ok (.iaload, 1) := by decide +kernel
theorem dX7_awakens_11 : decode cX7_awakens 11 = .ok (.ireturn, 1) := by decide +kernel
theorem dX7_wake_0 : decode cX7_wake 0 = .ok (.aload_n 0, 1) := by decide +kernel
theorem dX7_wake_1 : decode cX7_wake 1 = .ok (.iload_n 1, 1) := by decide +kernel
theorem dX7_wake_2 : decode cX7_wake 2 = .ok (.invokevirtual 341, 3) := by decide +kernel
theorem dX7_wake_5 : decode cX7_wake 5 = .ok (.istore_n 2, 1) := by decide +kernel
theorem dX7_wake_6 : decode cX7_wake 6 = .ok (.aload_n 0, 1) := by decide +kernel
theorem dX7_wake_7 : decode cX7_wake 7 = .ok (.iload_n 2, 1) := by decide +kernel
theorem dX7_wake_8 : decode cX7_wake 8 = .ok (.iload_n 2, 1) := by decide +kernel
theorem dX7_wake_9 : decode cX7_wake 9 = .ok (.ifCond .eq 16, 3) := by decide +kernel
theorem dX7_wake_12 : decode cX7_wake 12 = .ok (.aload_n 0, 1) := by decide +kernel
theorem dX7_wake_13 : decode cX7_wake 13 = .ok (.iload_n 1, 1) := by decide +kernel
theorem dX7_wake_14 : decode cX7_wake 14 = .ok (.iconst 0, 1) := by decide +kernel
theorem dX7_wake_15 : decode cX7_wake 15 = .ok (.invokevirtual 297, 3) := by decide +kernel
theorem dX7_wake_18 : decode cX7_wake 18 = .ok (.ifCond .eq 7, 3) := by decide +kernel
theorem dX7_wake_21 : decode cX7_wake 21 = .ok (.iconst 1, 1) := by decide +kernel
theorem dX7_wake_22 : decode cX7_wake 22 = .ok (.goto 4, 3) := by decide +kernel
theorem dX7_wake_25 : decode cX7_wake 25 = .ok (.iconst 0, 1) := by decide +kernel
theorem dX7_wake_26 : decode cX7_wake 26 = .ok (.invokevirtual 354, 3) := by decide +kernel
theorem dX7_wake_29 : decode cX7_wake 29 = .ok (.ifCond .ne 5, 3) := by decide +kernel
theorem dX7_wake_32 : decode cX7_wake 32 = .ok (.iconst 0, 1) := by decide +kernel
theorem dX7_wake_33 : decode cX7_wake 33 = .ok (.ireturn, 1) := by decide +kernel
theorem dX7_wake_34 : decode cX7_wake 34 = .ok (.aload_n 0, 1) := by decide +kernel
theorem dX7_wake_35 : decode cX7_wake 35 = .ok (.invokevirtual 242, 3) := by decide +kernel
theorem dX7_wake_38 : decode cX7_wake 38 = .ok (.aload_n 0, 1) := by decide +kernel
theorem dX7_wake_39 : decode cX7_wake 39 = .ok (.aload_n 0, 1) := by decide +kernel
theorem dX7_wake_40 : decode cX7_wake 40 = .ok (.iload_n 1, 1) := by decide +kernel
theorem dX7_wake_41 : decode cX7_wake 41 = .ok (.invokevirtual 429, 3) := by decide +kernel
theorem dX7_wake_44 : decode cX7_wake 44 = .ok (.invokevirtual 426, 3) := by decide +kernel
theorem dX7_wake_47 : decode cX7_wake 47 = .ok (.ireturn, 1) := by decide +kernel
theorem dX7_swapsCell_0 : decode cX7_swapsCell 0 = .ok (.aload_n 0, 1) := by decide +kernel
theorem dX7_swapsCell_1 : decode cX7_swapsCell 1 = .ok (.getfield 20, 3) := by decide +kernel
theorem dX7_swapsCell_4 : decode cX7_swapsCell 4 = .ok (.iload_n 1, 1) := by decide +kernel
theorem dX7_swapsCell_5 : decode cX7_swapsCell 5 = .ok (.iaload, 1) := by decide +kernel
theorem dX7_swapsCell_6 : decode cX7_swapsCell 6 = .ok (.istore_n 3, 1) := by decide +kernel
theorem dX7_swapsCell_7 : decode cX7_swapsCell 7 = .ok (.aload_n 0, 1) := by decide +kernel
theorem dX7_swapsCell_8 : decode cX7_swapsCell 8 = .ok (.getfield 20, 3) := by decide +kernel
theorem dX7_swapsCell_11 : decode cX7_swapsCell 11 = .ok (.iload_n 1, 1) := by decide +kernel
theorem dX7_swapsCell_12 : decode cX7_swapsCell 12 = .ok (.iload_n 2, 1) := by decide +kernel
theorem dX7_swapsCell_13 : decode cX7_swapsCell 13 = .ok (.iastore, 1) := by decide +kernel
theorem dX7_swapsCell_14 : decode cX7_swapsCell 14 = .ok (.iload_n 3, 1) := by decide +kernel
theorem dX7_swapsCell_15 : decode cX7_swapsCell 15 = .ok (.ireturn, 1) := by decide +kernel
theorem dX7_isPeriod_0 : decode cX7_isPeriod 0 = .ok (.iload_n 2, 1) := by decide +kernel
theorem dX7_isPeriod_1 : decode cX7_isPeriod 1 = .ok (.i2l, 1) := by decide +kernel
theorem dX7_isPeriod_2 : decode cX7_isPeriod 2 = .ok (.ldc2_w 432, 3) := by decide +kernel
theorem dX7_isPeriod_5 : decode cX7_isPeriod 5 = .ok (.ldc2_w 418, 3) := by decide +kernel
theorem dX7_isPeriod_8 : decode cX7_isPeriod 8 = .ok (.invokestatic 84, 3) := by decide +kernel
theorem dX7_isPeriod_11 : decode cX7_isPeriod 11 = .ok (.ifCond .eq 17, 3) := by decide +kernel
theorem dX7_isPeriod_14 : decode cX7_isPeriod 14 = .ok (.iload_n 2, 1) := by decide +kernel
theorem dX7_isPeriod_15 : decode cX7_isPeriod 15 = .ok (.aload_n 0, 1) := by decide +kernel
theorem dX7_isPeriod_16 : decode cX7_isPeriod 16 = .ok (.iload_n 1, 1) := by decide +kernel
theorem dX7_isPeriod_17 : decode cX7_isPeriod 17 = .ok (.iconst 1, 1) := by decide +kernel
theorem dX7_isPeriod_18 : decode cX7_isPeriod 18 = .ok (.invokevirtual 251, 3) := by decide +kernel
theorem dX7_isPeriod_21 : decode cX7_isPeriod 21 = .ok (.if_icmp .le 7, 3) := by decide +kernel
theorem dX7_isPeriod_24 : decode cX7_isPeriod 24 = .ok (.iconst 1, 1) := by decide +kernel
theorem dX7_isPeriod_25 : decode cX7_isPeriod 25 = .ok (.goto 4, 3) := by decide +kernel
theorem dX7_isPeriod_28 : decode cX7_isPeriod 28 = .ok (.iconst 0, 1) := by decide +kernel
theorem dX7_isPeriod_29 : decode cX7_isPeriod 29 = .ok (.ireturn, 1) := by decide +kernel
theorem dX7_isFirst_0 : decode cX7_isFirst 0 = .ok (.iload_n 2, 1) := by decide +kernel
theorem dX7_isFirst_1 : decode cX7_isFirst 1 = .ok (.i2l, 1) := by decide +kernel
theorem dX7_isFirst_2 : decode cX7_isFirst 2 = .ok (.lconst 0, 1) := by decide +kernel
theorem dX7_isFirst_3 : decode cX7_isFirst 3 = .ok (.aload_n 0, 1) := by decide +kernel
theorem dX7_isFirst_4 : decode cX7_isFirst 4 = .ok (.iload_n 1, 1) := by decide +kernel
theorem dX7_isFirst_5 : decode cX7_isFirst 5 = .ok (.iconst 0, 1) := by decide +kernel
theorem dX7_isFirst_6 : decode cX7_isFirst 6 = .ok (.invokevirtual 251, 3) := by decide +kernel
theorem dX7_isFirst_9 : decode cX7_isFirst 9 = .ok (.iconst 1, 1) := by decide +kernel
theorem dX7_isFirst_10 : decode cX7_isFirst 10 = .ok (.isub, 1) := by decide +kernel
theorem dX7_isFirst_11 : decode cX7_isFirst 11 = .ok (.i2l, 1) := by decide +kernel
theorem dX7_isFirst_12 : decode cX7_isFirst 12 = .ok (.invokestatic 84, 3) := by decide +kernel
theorem dX7_isFirst_15 : decode cX7_isFirst 15 = .ok (.ireturn, 1) := by decide +kernel
theorem dX7_setEvery_0 : decode cX7_setEvery 0 = .ok (.aload_n 0, 1) := by decide +kernel
theorem dX7_setEvery_1 : decode cX7_setEvery 1 = .ok (.iload_n 1, 1) := by decide +kernel
theorem dX7_setEvery_2 : decode cX7_setEvery 2 = .ok (.invokevirtual 341, 3) := by decide +kernel
theorem dX7_setEvery_5 : decode cX7_setEvery 5 = .ok (.istore_n 3, 1) := by decide +kernel
theorem dX7_setEvery_6 : decode cX7_setEvery 6 = .ok (.aload_n 0, 1) := by decide +kernel
theorem dX7_setEvery_7 : decode cX7_setEvery 7 = .ok (.iload_n 3, 1) := by decide +kernel
theorem dX7_setEvery_8 : decode cX7_setEvery 8 = .ok (.iload_n 3, 1) := by decide +kernel
theorem dX7_setEvery_9 : decode cX7_setEvery 9 = .ok (.ifCond .eq 16, 3) := by decide +kernel
theorem dX7_setEvery_12 : decode cX7_setEvery 12 = .ok (.aload_n 0, 1) := by decide +kernel
theorem dX7_setEvery_13 : decode cX7_setEvery 13 = .ok (.iload_n 1, 1) := by decide +kernel
theorem dX7_setEvery_14 : decode cX7_setEvery 14 = .ok (.iload_n 2, 1) := by decide +kernel
theorem dX7_setEvery_15 : decode cX7_setEvery 15 = .ok (.invokevirtual 434, 3) := by decide +kernel
theorem dX7_setEvery_18 : decode cX7_setEvery 18 = .ok (.ifCond .eq 7, 3) := by decide +kernel
theorem dX7_setEvery_21 : decode cX7_setEvery 21 = .ok (.iconst 1, 1) := by decide +kernel
theorem dX7_setEvery_22 : decode cX7_setEvery 22 = .ok (.goto 4, 3) := by decide +kernel
theorem dX7_setEvery_25 : decode cX7_setEvery 25 = .ok (.iconst 0, 1) := by decide +kernel
theorem dX7_setEvery_26 : decode cX7_setEvery 26 = .ok (.invokevirtual 354, 3) := by decide +kernel
theorem dX7_setEvery_29 : decode cX7_setEvery 29 = .ok (.ifCond .ne 5, 3) := by decide +kernel
theorem dX7_setEvery_32 : decode cX7_setEvery 32 = .ok (.iconst 0, 1) := by decide +kernel
theorem dX7_setEvery_33 : decode cX7_setEvery 33 = .ok (.ireturn, 1) := by decide +kernel
theorem dX7_setEvery_34 : decode cX7_setEvery 34 = .ok (.aload_n 0, 1) := by decide +kernel
theorem dX7_setEvery_35 : decode cX7_setEvery 35 = .ok (.invokevirtual 242, 3) := by decide +kernel
theorem dX7_setEvery_38 : decode cX7_setEvery 38 = .ok (.aload_n 0, 1) := by decide +kernel
theorem dX7_setEvery_39 : decode cX7_setEvery 39 = .ok (.aload_n 0, 1) := by decide +kernel
theorem dX7_setEvery_40 : decode cX7_setEvery 40 = .ok (.iload_n 1, 1) := by decide +kernel
theorem dX7_setEvery_41 : decode cX7_setEvery 41 = .ok (.iconst 0, 1) := by decide +kernel
theorem dX7_setEvery_42 : decode cX7_setEvery 42 = .ok (.invokestatic 145, 3) := by decide +kernel
theorem dX7_setEvery_45 : decode cX7_setEvery 45 = .ok (.iload_n 2, 1) := by decide +kernel
theorem dX7_setEvery_46 : decode cX7_setEvery 46 = .ok (.invokevirtual 437, 3) := by decide +kernel
theorem dX7_setEvery_49 : decode cX7_setEvery 49 = .ok (.invokevirtual 426, 3) := by decide +kernel
theorem dX7_setEvery_52 : decode cX7_setEvery 52 = .ok (.ireturn, 1) := by decide +kernel
theorem dX7_setAt_0 : decode cX7_setAt 0 = .ok (.aload_n 0, 1) := by decide +kernel
theorem dX7_setAt_1 : decode cX7_setAt 1 = .ok (.iload_n 1, 1) := by decide +kernel
theorem dX7_setAt_2 : decode cX7_setAt 2 = .ok (.invokevirtual 341, 3) := by decide +kernel
theorem dX7_setAt_5 : decode cX7_setAt 5 = .ok (.istore_n 3, 1) := by decide +kernel
theorem dX7_setAt_6 : decode cX7_setAt 6 = .ok (.aload_n 0, 1) := by decide +kernel
theorem dX7_setAt_7 : decode cX7_setAt 7 = .ok (.iload_n 3, 1) := by decide +kernel
theorem dX7_setAt_8 : decode cX7_setAt 8 = .ok (.iload_n 3, 1) := by decide +kernel
theorem dX7_setAt_9 : decode cX7_setAt 9 = .ok (.ifCond .eq 16, 3) := by decide +kernel
theorem dX7_setAt_12 : decode cX7_setAt 12 = .ok (.aload_n 0, 1) := by decide +kernel
theorem dX7_setAt_13 : decode cX7_setAt 13 = .ok (.iload_n 1, 1) := by decide +kernel
theorem dX7_setAt_14 : decode cX7_setAt 14 = .ok (.iload_n 2, 1) := by decide +kernel
theorem dX7_setAt_15 : decode cX7_setAt 15 = .ok (.invokevirtual 440, 3) := by decide +kernel
theorem dX7_setAt_18 : decode cX7_setAt 18 = .ok (.ifCond .eq 7, 3) := by decide +kernel
theorem dX7_setAt_21 : decode cX7_setAt 21 = .ok (.iconst 1, 1) := by decide +kernel
theorem dX7_setAt_22 : decode cX7_setAt 22 = .ok (.goto 4, 3) := by decide +kernel
theorem dX7_setAt_25 : decode cX7_setAt 25 = .ok (.iconst 0, 1) := by decide +kernel
theorem dX7_setAt_26 : decode cX7_setAt 26 = .ok (.invokevirtual 354, 3) := by decide +kernel
theorem dX7_setAt_29 : decode cX7_setAt 29 = .ok (.ifCond .ne 5, 3) := by decide +kernel
theorem dX7_setAt_32 : decode cX7_setAt 32 = .ok (.iconst 0, 1) := by decide +kernel
theorem dX7_setAt_33 : decode cX7_setAt 33 = .ok (.ireturn, 1) := by decide +kernel
theorem dX7_setAt_34 : decode cX7_setAt 34 = .ok (.aload_n 0, 1) := by decide +kernel
theorem dX7_setAt_35 : decode cX7_setAt 35 = .ok (.invokevirtual 242, 3) := by decide +kernel
theorem dX7_setAt_38 : decode cX7_setAt 38 = .ok (.aload_n 0, 1) := by decide +kernel
theorem dX7_setAt_39 : decode cX7_setAt 39 = .ok (.aload_n 0, 1) := by decide +kernel
theorem dX7_setAt_40 : decode cX7_setAt 40 = .ok (.iload_n 1, 1) := by decide +kernel
theorem dX7_setAt_41 : decode cX7_setAt 41 = .ok (.iconst 1, 1) := by decide +kernel
theorem dX7_setAt_42 : decode cX7_setAt 42 = .ok (.invokestatic 145, 3) := by decide +kernel
theorem dX7_setAt_45 : decode cX7_setAt 45 = .ok (.iload_n 2, 1) := by decide +kernel
theorem dX7_setAt_46 : decode cX7_setAt 46 = .ok (.invokevirtual 437, 3) := by decide +kernel
theorem dX7_setAt_49 : decode cX7_setAt 49 = .ok (.invokevirtual 426, 3) := by decide +kernel
theorem dX7_setAt_52 : decode cX7_setAt 52 = .ok (.ireturn, 1) := by decide +kernel
theorem dX7_isBy_0 : decode cX7_isBy 0 = .ok (.iload_n 0, 1) := by decide +kernel
theorem dX7_isBy_1 : decode cX7_isBy 1 = .ok (.i2l, 1) := by decide +kernel
theorem dX7_isBy_2 : decode cX7_isBy 2 = .ok (.lconst 1, 1) := by decide +kernel
theorem dX7_isBy_3 : decode cX7_isBy 3 = .ok (.ldc2_w 443, 3) := by decide +kernel
theorem dX7_isBy_6 : decode cX7_isBy 6 = .ok (.invokestatic 84, 3) := by decide +kernel
theorem dX7_isBy_9 : decode cX7_isBy 9 = .ok (.ireturn, 1) := by decide +kernel
theorem dX7_charges_0 : decode cX7_charges 0 = .ok (.aload_n 0, 1) := by decide +kernel
theorem dX7_charges_1 : decode cX7_charges 1 = .ok (.iload_n 1, 1) := by decide +kernel
theorem dX7_charges_2 : decode cX7_charges 2 = .ok (.iconst 4, 1) := by decide +kernel
theorem dX7_charges_3 : decode cX7_charges 3 = .ok (.invokevirtual 297, 3) := by decide +kernel
theorem dX7_charges_6 : decode cX7_charges 6 = .ok (.ifCond .eq 18, 3) := by decide +kernel
theorem dX7_charges_9 : decode cX7_charges 9 = .ok (.aload_n 0, 1) := by decide +kernel
theorem dX7_charges_10 : decode cX7_charges 10 = .ok (.iload_n 1, 1) := by decide +kernel
theorem dX7_charges_11 : decode cX7_charges 11 = .ok (.bipush 7, 2) := by decide +kernel
theorem dX7_charges_13 : decode cX7_charges 13 = .ok (.iconst 0, 1) := by decide +kernel
theorem dX7_charges_14 : decode cX7_charges 14 = .ok (.invokevirtual 148, 3) := by decide +kernel
theorem dX7_charges_17 : decode cX7_charges 17 = .ok (.aload_n 0, 1) := by decide +kernel
theorem dX7_charges_18 : decode cX7_charges 18 = .ok (.iload_n 1, 1) := by decide +kernel
theorem dX7_charges_19 : decode cX7_charges 19 = .ok (.iconst 0, 1) := by decide +kernel
theorem dX7_charges_20 : decode cX7_charges 20 = .ok (.iconst 0, 1) := by decide +kernel
theorem dX7_charges_21 : decode cX7_charges 21 = .ok (.invokevirtual 264, 3) := by decide +kernel
theorem dX7_charges_24 : decode cX7_charges 24 = .ok (.aload_n 0, 1) := by decide +kernel
theorem dX7_charges_25 : decode cX7_charges 25 = .ok (.iload_n 1, 1) := by decide +kernel
theorem dX7_charges_26 : decode cX7_charges 26 = .ok (.iconst 4, 1) := by decide +kernel
theorem dX7_charges_27 : decode cX7_charges 27 = .ok (.sipush 9999, 3) := by decide +kernel
theorem dX7_charges_30 : decode cX7_charges 30 = .ok (.aload_n 0, 1) := by decide +kernel
theorem dX7_charges_31 : decode cX7_charges 31 = .ok (.iload_n 1, 1) := by decide +kernel
theorem dX7_charges_32 : decode cX7_charges 32 = .ok (.iconst 4, 1) := by decide +kernel
theorem dX7_charges_33 : decode cX7_charges 33 = .ok (.invokevirtual 251, 3) := by decide +kernel
theorem dX7_charges_36 : decode cX7_charges 36 = .ok (.iload_n 2, 1) := by decide +kernel
theorem dX7_charges_37 : decode cX7_charges 37 = .ok (.iadd, 1) := by decide +kernel
theorem dX7_charges_38 : decode cX7_charges 38 = .ok (.invokestatic 260, 3) := by decide +kernel
theorem dX7_charges_41 : decode cX7_charges 41 = .ok (.invokevirtual 148, 3) := by decide +kernel
theorem dX7_charges_44 : decode cX7_charges 44 = .ok (.aload_n 0, 1) := by decide +kernel
theorem dX7_charges_45 : decode cX7_charges 45 = .ok (.iload_n 1, 1) := by decide +kernel
theorem dX7_charges_46 : decode cX7_charges 46 = .ok (.iconst 4, 1) := by decide +kernel
theorem dX7_charges_47 : decode cX7_charges 47 = .ok (.invokevirtual 251, 3) := by decide +kernel
theorem dX7_charges_50 : decode cX7_charges 50 = .ok (.ireturn, 1) := by decide +kernel
theorem dX7_charge_0 : decode cX7_charge 0 = .ok (.aload_n 0, 1) := by decide +kernel
theorem dX7_charge_1 : decode cX7_charge 1 = .ok (.aload_n 0, 1) := by decide +kernel
theorem dX7_charge_2 : decode cX7_charge 2 = .ok (.iload_n 1, 1) := by decide +kernel
theorem dX7_charge_3 : decode cX7_charge 3 = .ok (.invokevirtual 341, 3) := by decide +kernel
theorem dX7_charge_6 : decode cX7_charge 6 = .ok (.iload_n 2, 1) := by decide +kernel
theorem dX7_charge_7 : decode cX7_charge 7 = .ok (.invokestatic 445, 3) := by decide +kernel
theorem dX7_charge_10 : decode cX7_charge 10 = .ok (.invokevirtual 354, 3) := by decide +kernel
theorem dX7_charge_13 : decode cX7_charge 13 = .ok (.ifCond .ne 5, 3) := by decide +kernel
theorem dX7_charge_16 : decode cX7_charge 16 = .ok (.iconst 0, 1) := by decide +kernel
theorem dX7_charge_17 : decode cX7_charge 17 = .ok (.ireturn, 1) := by decide +kernel
theorem dX7_charge_18 : decode cX7_charge 18 = .ok (.aload_n 0, 1) := by decide +kernel
theorem dX7_charge_19 : decode cX7_charge 19 = .ok (.invokevirtual 242, 3) := by decide +kernel
theorem dX7_charge_22 : decode cX7_charge 22 = .ok (.aload_n 0, 1) := by decide +kernel
theorem dX7_charge_23 : decode cX7_charge 23 = .ok (.aload_n 0, 1) := by decide +kernel
theorem dX7_charge_24 : decode cX7_charge 24 = .ok (.iload_n 1, 1) := by decide +kernel
theorem dX7_charge_25 : decode cX7_charge 25 = .ok (.iload_n 2, 1) := by decide +kernel
theorem dX7_charge_26 : decode cX7_charge 26 = .ok (.invokevirtual 448, 3) := by decide +kernel
theorem dX7_charge_29 : decode cX7_charge 29 = .ok (.invokevirtual 426, 3) := by decide +kernel
theorem dX7_charge_32 : decode cX7_charge 32 = .ok (.ireturn, 1) := by decide +kernel
theorem dX7_setNear_0 : decode cX7_setNear 0 = .ok (.aload_n 0, 1) := by decide +kernel
theorem dX7_setNear_1 : decode cX7_setNear 1 = .ok (.aload_n 0, 1) := by decide +kernel
theorem dX7_setNear_2 : decode cX7_setNear 2 = .ok (.iload_n 1, 1) := by decide +kernel
theorem dX7_setNear_3 : decode cX7_setNear 3 = .ok (.iload_n 2, 1) := by decide +kernel
theorem dX7_setNear_4 : decode cX7_setNear 4 = .ok (.invokevirtual 370, 3) := by decide +kernel
theorem dX7_setNear_7 : decode cX7_setNear 7 = .ok (.iload_n 1, 1) := by decide +kernel
theorem dX7_setNear_8 : decode cX7_setNear 8 = .ok (.iload_n 2, 1) := by decide +kernel
theorem dX7_setNear_9 : decode cX7_setNear 9 = .ok (.if_icmp .eq 7, 3) := by decide +kernel
theorem dX7_setNear_12 : decode cX7_setNear 12 = .ok (.iconst 1, 1) := by decide +kernel
theorem dX7_setNear_13 : decode cX7_setNear 13 = .ok (.goto 4, 3) := by decide +kernel
theorem dX7_setNear_16 : decode cX7_setNear 16 = .ok (.iconst 0, 1) := by decide +kernel
theorem dX7_setNear_17 : decode cX7_setNear 17 = .ok (.invokevirtual 354, 3) := by decide +kernel
theorem dX7_setNear_20 : decode cX7_setNear 20 = .ok (.ifCond .eq 13, 3) := by decide +kernel
theorem dX7_setNear_23 : decode cX7_setNear 23 = .ok (.aload_n 0, 1) := by decide +kernel
theorem dX7_setNear_24 : decode cX7_setNear 24 = .ok (.iload_n 1, 1) := by decide +kernel
theorem dX7_setNear_25 : decode cX7_setNear 25 = .ok (.iload_n 2, 1) := by decide +kernel
theorem dX7_setNear_26 : decode cX7_setNear 26 = .ok (.invokevirtual 208, 3) := by decide +kernel
theorem dX7_setNear_29 : decode cX7_setNear 29 = .ok (.iload_n 3, 1) := by decide +kernel
theorem dX7_setNear_30 : decode cX7_setNear 30 = .ok (.if_icmp .ne 5, 3) := by decide +kernel
theorem dX7_setNear_33 : decode cX7_setNear 33 = .ok (.iconst 0, 1) := by decide +kernel
theorem dX7_setNear_34 : decode cX7_setNear 34 = .ok (.ireturn, 1) := by decide +kernel
theorem dX7_setNear_35 : decode cX7_setNear 35 = .ok (.aload_n 0, 1) := by decide +kernel
theorem dX7_setNear_36 : decode cX7_setNear 36 = .ok (.invokevirtual 242, 3) := by decide +kernel
theorem dX7_setNear_39 : decode cX7_setNear 39 = .ok (.aload_n 0, 1) := by decide +kernel
theorem dX7_setNear_40 : decode cX7_setNear 40 = .ok (.iload_n 1, 1) := by decide +kernel
theorem dX7_setNear_41 : decode cX7_setNear 41 = .ok (.iload_n 2, 1) := by decide +kernel
theorem dX7_setNear_42 : decode cX7_setNear 42 = .ok (.iload_n 3, 1) := by decide +kernel
theorem dX7_setNear_43 : decode cX7_setNear 43 = .ok (.invokevirtual 211, 3) := by decide +kernel
theorem dX7_setNear_46 : decode cX7_setNear 46 = .ok (.aload_n 0, 1) := by decide +kernel
theorem dX7_setNear_47 : decode cX7_setNear 47 = .ok (.invokevirtual 159, 3) := by decide +kernel
theorem dX7_setNear_50 : decode cX7_setNear 50 = .ok (.iconst 1, 1) := by decide +kernel
theorem dX7_setNear_51 : decode cX7_setNear 51 = .ok (.ireturn, 1) := by decide +kernel
theorem dX7_setTries_0 : decode cX7_setTries 0 = .ok (.aload_n 0, 1) := by decide +kernel
theorem dX7_setTries_1 : decode cX7_setTries 1 = .ok (.iload_n 1, 1) := by decide +kernel
theorem dX7_setTries_2 : decode cX7_setTries 2 = .ok (.i2l, 1) := by decide +kernel
theorem dX7_setTries_3 : decode cX7_setTries 3 = .ok (.lconst 1, 1) := by decide +kernel
theorem dX7_setTries_4 : decode cX7_setTries 4 = .ok (.ldc2_w 451, 3) := by decide +kernel
theorem dX7_setTries_7 : decode cX7_setTries 7 = .ok (.invokestatic 84, 3) := by decide +kernel
theorem dX7_setTries_10 : decode cX7_setTries 10 = .ok (.invokevirtual 76, 3) := by decide +kernel
theorem dX7_setTries_13 : decode cX7_setTries 13 = .ok (.ifCond .ne 5, 3) := by decide +kernel
theorem dX7_setTries_16 : decode cX7_setTries 16 = .ok (.iconst 0, 1) := by decide +kernel
theorem dX7_setTries_17 : decode cX7_setTries 17 = .ok (.ireturn, 1) := by decide +kernel
theorem dX7_setTries_18 : decode cX7_setTries 18 = .ok (.aload_n 0, 1) := by decide +kernel
theorem dX7_setTries_19 : decode cX7_setTries 19 = .ok (.invokevirtual 242, 3) := by decide +kernel
theorem dX7_setTries_22 : decode cX7_setTries 22 = .ok (.aload_n 0, 1) := by decide +kernel
theorem dX7_setTries_23 : decode cX7_setTries 23 = .ok (.aload_n 0, 1) := by decide +kernel
theorem dX7_setTries_24 : decode cX7_setTries 24 = .ok (.iconst 2, 1) := by decide +kernel
theorem dX7_setTries_25 : decode cX7_setTries 25 = .ok (.iload_n 1, 1) := by decide +kernel
theorem dX7_setTries_26 : decode cX7_setTries 26 = .ok (.invokevirtual 437, 3) := by decide +kernel
theorem dX7_setTries_29 : decode cX7_setTries 29 = .ok (.invokevirtual 426, 3) := by decide +kernel
theorem dX7_setTries_32 : decode cX7_setTries 32 = .ok (.ireturn, 1) := by decide +kernel
theorem dX7_commandHere_0 : decode cX7_commandHere 0 = .ok (.aload_n 0, 1) := by decide +kernel
theorem dX7_commandHere_1 : decode cX7_commandHere 1 = .ok (.ldc2_w 453, 3) := by decide +kernel
theorem dX7_commandHere_4 : decode cX7_commandHere 4 = .ok (.invokevirtual 134, 3) := by decide +kernel
theorem dX7_commandHere_7 : decode cX7_commandHere 7 = .ok (.ifCond .eq 5, 3) := by decide +kernel
theorem dX7_commandHere_10 : decode cX7_commandHere 10 = .ok (.iconst 0, 1) := by decide +kernel
theorem dX7_commandHere_11 : decode cX7_commandHere 11 = .ok (.ireturn, 1) := by decide +kernel
theorem dX7_commandHere_12 : decode cX7_commandHere 12 = .ok (.aload_n 0, 1) := by decide +kernel
theorem dX7_commandHere_13 : decode cX7_commandHere 13 = .ok (.ldc2_w 455, 3) := by decide +kernel
theorem dX7_commandHere_16 : decode cX7_commandHere 16 = .ok (.invokevirtual 134, 3) := by decide +kernel
theorem dX7_commandHere_19 : decode cX7_commandHere 19 = .ok (.ifCond .eq 5, 3) := by decide +kernel
theorem dX7_commandHere_22 : decode cX7_commandHere 22 = .ok (.iconst 1, 1) := by decide +kernel
theorem dX7_commandHere_23 : decode cX7_commandHere 23 = .ok (.ireturn, 1) := by decide +kernel
theorem dX7_commandHere_24 : decode cX7_commandHere 24 = .ok (.aload_n 0, 1) := by decide +kernel
theorem dX7_commandHere_25 : decode cX7_commandHere 25 = .ok (.ldc2_w 187, 3) := by decide +kernel
theorem dX7_commandHere_28 : decode cX7_commandHere 28 = .ok (.invokevirtual 134, 3) := by decide +kernel
theorem dX7_commandHere_31 : decode cX7_commandHere 31 = .ok (.ifCond .eq 5, 3) := by decide +kernel
theorem dX7_commandHere_34 : decode cX7_commandHere 34 = .ok (.iconst 2, 1) := by decide +kernel
theorem dX7_commandHere_35 : decode cX7_commandHere 35 = .ok (.ireturn, 1) := by decide +kernel
theorem dX7_commandHere_36 : decode cX7_commandHere 36 = .ok (.aload_n 0, 1) := by decide +kernel
theorem dX7_commandHere_37 : decode cX7_commandHere 37 = .ok (.ldc2_w 193, 3) := by decide +kernel
theorem dX7_commandHere_40 : decode cX7_commandHere 40 = .ok (.invokevirtual 134, 3) := by decide +kernel
theorem dX7_commandHere_43 : decode cX7_commandHere 43 = .ok (.ifCond .eq 5, 3) := by decide +kernel
theorem dX7_commandHere_46 : decode cX7_commandHere 46 = .ok (.iconst 3, 1) := by decide +kernel
theorem dX7_commandHere_47 : decode cX7_commandHere 47 = .ok (.ireturn, 1) := by decide +kernel
theorem dX7_commandHere_48 : decode cX7_commandHere 48 = .ok (.aload_n 0, 1) := by decide +kernel
theorem dX7_commandHere_49 : decode cX7_commandHere 49 = .ok (.ldc2_w 457, 3) := by decide +kernel
theorem dX7_commandHere_52 : decode cX7_commandHere 52 = .ok (.invokevirtual 134, 3) := by decide +kernel
theorem dX7_commandHere_55 : decode cX7_commandHere 55 = .ok (.ifCond .eq 5, 3) := by decide +kernel
theorem dX7_commandHere_58 : decode cX7_commandHere 58 = .ok (.iconst 4, 1) := by decide +kernel
theorem dX7_commandHere_59 : decode cX7_commandHere 59 = .ok (.ireturn, 1) := by decide +kernel
theorem dX7_commandHere_60 : decode cX7_commandHere 60 = .ok (.aload_n 0, 1) := by decide +kernel
theorem dX7_commandHere_61 : decode cX7_commandHere 61 = .ok (.ldc2_w 231, 3) := by decide +kernel
theorem dX7_commandHere_64 : decode cX7_commandHere 64 = .ok (.invokevirtual 134, 3) := by decide +kernel
theorem dX7_commandHere_67 : decode cX7_commandHere 67 = .ok (.ifCond .eq 5, 3) := by decide +kernel
theorem dX7_commandHere_70 : decode cX7_commandHere 70 = .ok (.iconst 5, 1) := by decide +kernel
theorem dX7_commandHere_71 : decode cX7_commandHere 71 = .ok (.ireturn, 1) := by decide +kernel
theorem dX7_commandHere_72 : decode cX7_commandHere 72 = .ok (.aload_n 0, 1) := by decide +kernel
theorem dX7_commandHere_73 : decode cX7_commandHere 73 = .ok (.ldc2_w 459, 3) := by decide +kernel
theorem dX7_commandHere_76 : decode cX7_commandHere 76 = .ok (.invokevirtual 134, 3) := by decide +kernel
theorem dX7_commandHere_79 : decode cX7_commandHere 79 = .ok (.ifCond .eq 6, 3) := by decide +kernel
theorem dX7_commandHere_82 : decode cX7_commandHere 82 = .ok (.bipush 6, 2) := by decide +kernel
theorem dX7_commandHere_84 : decode cX7_commandHere 84 = .ok (.ireturn, 1) := by decide +kernel
theorem dX7_commandHere_85 : decode cX7_commandHere 85 = .ok (.aload_n 0, 1) := by decide +kernel
theorem dX7_commandHere_86 : decode cX7_commandHere 86 = .ok (.ldc2_w 461, 3) := by decide +kernel
theorem dX7_commandHere_89 : decode cX7_commandHere 89 = .ok (.invokevirtual 134, 3) := by decide +kernel
theorem dX7_commandHere_92 : decode cX7_commandHere 92 = .ok (.ifCond .eq 8, 3) := by decide +kernel
theorem dX7_commandHere_95 : decode cX7_commandHere 95 = .ok (.bipush 7, 2) := by decide +kernel
theorem dX7_commandHere_97 : decode cX7_commandHere 97 = .ok (.goto 4, 3) := by decide +kernel
theorem dX7_commandHere_100 : decode cX7_commandHere 100 = .ok (.iconst (-1), 1) := by decide +kernel
theorem dX7_commandHere_101 : decode cX7_commandHere 101 = .ok (.ireturn, 1) := by decide +kernel
theorem dX7_any_0 : decode cX7_any 0 = .ok (.aload_n 0, 1) := by decide +kernel
theorem dX7_any_1 : decode cX7_any 1 = .ok (.iconst 0, 1) := by decide +kernel
theorem dX7_any_2 : decode cX7_any 2 = .ok (.sipush 999, 3) := by decide +kernel
theorem dX7_any_5 : decode cX7_any 5 = .ok (.invokevirtual 184, 3) := by decide +kernel
theorem dX7_any_8 : decode cX7_any 8 = .ok (.ireturn, 1) := by decide +kernel
theorem dX7_otherTold_0 : decode cX7_otherTold 0 = .ok (.aload_n 0, 1) := by decide +kernel
theorem dX7_otherTold_1 : decode cX7_otherTold 1 = .ok (.invokevirtual 170, 3) := by decide +kernel
theorem dX7_otherTold_4 : decode cX7_otherTold 4 = .ok (.aload_n 0, 1) := by decide +kernel
theorem dX7_otherTold_5 : decode cX7_otherTold 5 = .ok (.invokevirtual 121, 3) := by decide +kernel
theorem dX7_otherTold_8 : decode cX7_otherTold 8 = .ok (.ifCond .eq 16, 3) := by decide +kernel
theorem dX7_otherTold_11 : decode cX7_otherTold 11 = .ok (.aload_n 0, 1) := by decide +kernel
theorem dX7_otherTold_12 : decode cX7_otherTold 12 = .ok (.invokevirtual 173, 3) := by decide +kernel
theorem dX7_otherTold_15 : decode cX7_otherTold 15 = .ok (.iload_n 1, 1) := by decide +kernel
theorem dX7_otherTold_16 : decode cX7_otherTold 16 = .ok (.if_icmp .ne 8, 3) := by decide +kernel
theorem dX7_otherTold_19 : decode cX7_otherTold 19 = .ok (.aload_n 0, 1) := by decide +kernel
theorem dX7_otherTold_20 : decode cX7_otherTold 20 = .ok (.iconst 3, 1) := by decide +kernel
theorem dX7_otherTold_21 : decode cX7_otherTold 21 = .ok (.invokevirtual 128, 3) := by decide +kernel
theorem dX7_otherTold_24 : decode cX7_otherTold 24 = .ok (.aload_n 0, 1) := by decide +kernel
theorem dX7_otherTold_25 : decode cX7_otherTold 25 = .ok (.invokevirtual 205, 3) := by decide +kernel
theorem dX7_otherTold_28 : decode cX7_otherTold 28 = .ok (.ireturn, 1) := by decide +kernel
theorem dX7_readsNumbers_0 : decode cX7_readsNumbers 0 = .ok (.iload_n 2, 1) := by decide +kernel
theorem dX7_readsNumbers_1 : decode cX7_readsNumbers 1 = .ok (.ifCond .ne 13, 3) := by decide +kernel
theorem dX7_readsNumbers_4 : decode cX7_readsNumbers 4 = .ok (.aload_n 0, 1) := by decide +kernel
theorem dX7_readsNumbers_5 : decode cX7_readsNumbers 5 = .ok (.getfield 48, 3) := by decide +kernel
theorem dX7_readsNumbers_8 : decode cX7_readsNumbers 8 = .ok (.iload_n 1, 1) := by decide +kernel
theorem dX7_readsNumbers_9 : decode cX7_readsNumbers 9 = .ok (.aload_n 0, 1) := by decide +kernel
theorem dX7_readsNumbers_10 : decode cX7_readsNumbers 10 = .ok (.invokevirtual 463, 3) := by decide +kernel
theorem dX7_readsNumbers_13 : decode cX7_readsNumbers 13 = .ok (.iastore, 1) := by decide +kernel
theorem dX7_readsNumbers_14 : decode cX7_readsNumbers 14 = .ok (.iload_n 2, 1) := by decide +kernel
theorem dX7_readsNumbers_15 : decode cX7_readsNumbers 15 = .ok (.iconst 1, 1) := by decide +kernel
theorem dX7_readsNumbers_16 : decode cX7_readsNumbers 16 = .ok (.if_icmp .lt 19, 3) := by decide +kernel
theorem dX7_readsNumbers_19 : decode cX7_readsNumbers 19 = .ok (.iload_n 2, 1) := by decide +kernel
theorem dX7_readsNumbers_20 : decode cX7_readsNumbers 20 = .ok (.bipush 6, 2) := by decide +kernel
theorem dX7_readsNumbers_22 : decode cX7_readsNumbers 22 = .ok (.if_icmp .gt 13, 3) := by decide +kernel
theorem dX7_readsNumbers_25 : decode cX7_readsNumbers 25 = .ok (.aload_n 0, 1) := by decide +kernel
theorem dX7_readsNumbers_26 : decode cX7_readsNumbers 26 = .ok (.getfield 48, 3) := by decide +kernel
theorem dX7_readsNumbers_29 : decode cX7_readsNumbers 29 = .ok (.iload_n 1, 1) := by decide +kernel
theorem dX7_readsNumbers_30 : decode cX7_readsNumbers 30 = .ok (.aload_n 0, 1) := by decide +kernel
theorem dX7_readsNumbers_31 : decode cX7_readsNumbers 31 = .ok (.invokevirtual 205, 3) := by decide +kernel
theorem dX7_readsNumbers_34 : decode cX7_readsNumbers 34 = .ok (.iastore, 1) := by decide +kernel
theorem dX7_readsNumbers_35 : decode cX7_readsNumbers 35 = .ok (.iload_n 2, 1) := by decide +kernel
theorem dX7_readsNumbers_36 : decode cX7_readsNumbers 36 = .ok (.iconst 2, 1) := by decide +kernel
theorem dX7_readsNumbers_37 : decode cX7_readsNumbers 37 = .ok (.if_icmp .lt 18, 3) := by decide +kernel
theorem dX7_readsNumbers_40 : decode cX7_readsNumbers 40 = .ok (.iload_n 2, 1) := by decide +kernel
theorem dX7_readsNumbers_41 : decode cX7_readsNumbers 41 = .ok (.iconst 4, 1) := by decide +kernel
theorem dX7_readsNumbers_42 : decode cX7_readsNumbers 42 = .ok (.if_icmp .gt 13, 3) := by decide +kernel
theorem dX7_readsNumbers_45 : decode cX7_readsNumbers 45 = .ok (.aload_n 0, 1) := by decide +kernel
theorem dX7_readsNumbers_46 : decode cX7_readsNumbers 46 = .ok (.getfield 51, 3) := by decide +kernel
theorem dX7_readsNumbers_49 : decode cX7_readsNumbers 49 = .ok (.iload_n 1, 1) := by decide +kernel
theorem dX7_readsNumbers_50 : decode cX7_readsNumbers 50 = .ok (.aload_n 0, 1) := by decide +kernel
theorem dX7_readsNumbers_51 : decode cX7_readsNumbers 51 = .ok (.invokevirtual 463, 3) := by decide +kernel
theorem dX7_readsNumbers_54 : decode cX7_readsNumbers 54 = .ok (.iastore, 1) := by decide +kernel
theorem dX7_readsNumbers_55 : decode cX7_readsNumbers 55 = .ok (.iload_n 2, 1) := by decide +kernel
theorem dX7_readsNumbers_56 : decode cX7_readsNumbers 56 = .ok (.iconst 5, 1) := by decide +kernel
theorem dX7_readsNumbers_57 : decode cX7_readsNumbers 57 = .ok (.if_icmp .eq 9, 3) := by decide +kernel
theorem dX7_readsNumbers_60 : decode cX7_readsNumbers 60 = .ok (.iload_n 2, 1) := by decide +kernel
theorem dX7_readsNumbers_61 : decode cX7_readsNumbers 61 = .ok (.bipush 6, 2) := by decide +kernel
theorem dX7_readsNumbers_63 : decode cX7_readsNumbers 63 = .ok (.if_icmp .ne 19, 3) := by decide +kernel
theorem dX7_readsNumbers_66 : decode cX7_readsNumbers 66 = .ok (.aload_n 0, 1) := by decide +kernel
theorem dX7_readsNumbers_67 : decode cX7_readsNumbers 67 = .ok (.getfield 51, 3) := by decide +kernel
theorem dX7_readsNumbers_70 : decode cX7_readsNumbers 70 = .ok (.iload_n 1, 1) := by decide +kernel
theorem dX7_readsNumbers_71 : decode cX7_readsNumbers 71 = .ok (.aload_n 0, 1) := by decide +kernel
theorem dX7_readsNumbers_72 : decode cX7_readsNumbers 72 = .ok (.aload_n 0, 1) := by decide +kernel
theorem dX7_readsNumbers_73 : decode cX7_readsNumbers 73 = .ok (.getfield 48, 3) := by decide +kernel
theorem dX7_readsNumbers_76 : decode cX7_readsNumbers 76 = .ok (.iload_n 1, 1) := by decide +kernel
theorem dX7_readsNumbers_77 : decode cX7_readsNumbers 77 = .ok (.iaload, 1) := by decide +kernel
theorem dX7_readsNumbers_78 : decode cX7_readsNumbers 78 = .ok (.invokevirtual 466, 3) := by decide +kernel
theorem dX7_readsNumbers_81 : decode cX7_readsNumbers 81 = .ok (.iastore, 1) := by decide +kernel
theorem dX7_readsNumbers_82 : decode cX7_readsNumbers 82 = .ok (.iload_n 2, 1) := by decide +kernel
theorem dX7_readsNumbers_83 : decode cX7_readsNumbers 83 = .ok (.bipush 7, 2) := by decide +kernel
theorem dX7_readsNumbers_85 : decode cX7_readsNumbers 85 = .ok (.if_icmp .ne 16, 3) := by decide +kernel
theorem dX7_readsNumbers_88 : decode cX7_readsNumbers 88 = .ok (.aload_n 0, 1) := by decide +kernel
theorem dX7_readsNumbers_89 : decode cX7_readsNumbers 89 = .ok (.getfield 48, 3) := by decide +kernel
theorem dX7_readsNumbers_92 : decode cX7_readsNumbers 92 = .ok (.iload_n 1, 1) := by decide +kernel
theorem dX7_readsNumbers_93 : decode cX7_readsNumbers 93 = .ok (.aload_n 0, 1) := by decide +kernel
theorem dX7_readsNumbers_94 : decode cX7_readsNumbers 94 = .ok (.iconst 1, 1) := by decide +kernel
theorem dX7_readsNumbers_95 : decode cX7_readsNumbers 95 = .ok (.bipush 20, 2) := by decide +kernel
theorem dX7_readsNumbers_97 : decode cX7_readsNumbers 97 = .ok (.invokevirtual 184, 3) := by decide +kernel
theorem dX7_readsNumbers_100 : decode cX7_readsNumbers 100 = .ok (.iastore, 1) := by decide +kernel
theorem dX7_readsNumbers_101 : decode cX7_readsNumbers 101 = .ok (.iload_n 2, 1) := by decide +kernel
theorem dX7_readsNumbers_102 : decode cX7_readsNumbers 102 = .ok (.bipush 7, 2) := by decide +kernel
theorem dX7_readsNumbers_104 : decode cX7_readsNumbers 104 = .ok (.if_icmp .ne 9, 3) := by decide +kernel
theorem dX7_readsNumbers_107 : decode cX7_readsNumbers 107 = .ok (.aload_n 0, 1) := by decide +kernel
theorem dX7_readsNumbers_108 : decode cX7_readsNumbers 108 = .ok (.bipush 40, 2) := by decide +kernel
theorem dX7_readsNumbers_110 : decode cX7_readsNumbers 110 = .ok (.invokevirtual 236, 3) := by decide +kernel
theorem dX7_readsNumbers_113 : decode cX7_readsNumbers 113 = .ok (.return_, 1) := by decide +kernel
theorem dX7_command_0 : decode cX7_command 0 = .ok (.aload_n 0, 1) := by decide +kernel
theorem dX7_command_1 : decode cX7_command 1 = .ok (.invokevirtual 469, 3) := by decide +kernel
theorem dX7_command_4 : decode cX7_command 4 = .ok (.istore_n 1, 1) := by decide +kernel
theorem dX7_command_5 : decode cX7_command 5 = .ok (.iload_n 1, 1) := by decide +kernel
theorem dX7_command_6 : decode cX7_command 6 = .ok (.iconst (-1), 1) := by decide +kernel
theorem dX7_command_7 : decode cX7_command 7 = .ok (.if_icmp .ne 8, 3) := by decide +kernel
theorem dX7_command_10 : decode cX7_command 10 = .ok (.aload_n 0, 1) := by decide +kernel
theorem dX7_command_11 : decode cX7_command 11 = .ok (.iconst 1, 1) := by decide +kernel
theorem dX7_command_12 : decode cX7_command 12 = .ok (.invokevirtual 128, 3) := by decide +kernel
theorem dX7_command_15 : decode cX7_command 15 = .ok (.iload_n 1, 1) := by decide +kernel
theorem dX7_command_16 : decode cX7_command 16 = .ok (.bipush 7, 2) := by decide +kernel
theorem dX7_command_18 : decode cX7_command 18 = .ok (.if_icmp .ne 16, 3) := by decide +kernel
theorem dX7_command_21 : decode cX7_command 21 = .ok (.aload_n 0, 1) := by decide +kernel
theorem dX7_command_22 : decode cX7_command 22 = .ok (.getfield 472, 3) := by decide +kernel
theorem dX7_command_25 : decode cX7_command 25 = .ok (.iconst 2, 1) := by decide +kernel
theorem dX7_command_26 : decode cX7_command 26 = .ok (.if_icmp .ne 8, 3) := by decide +kernel
theorem dX7_command_29 : decode cX7_command 29 = .ok (.aload_n 0, 1) := by decide +kernel
theorem dX7_command_30 : decode cX7_command 30 = .ok (.iconst 3, 1) := by decide +kernel
theorem dX7_command_31 : decode cX7_command 31 = .ok (.invokevirtual 128, 3) := by decide +kernel
theorem dX7_command_34 : decode cX7_command 34 = .ok (.aload_n 0, 1) := by decide +kernel
theorem dX7_command_35 : decode cX7_command 35 = .ok (.getfield 475, 3) := by decide +kernel
theorem dX7_command_38 : decode cX7_command 38 = .ok (.bipush 30, 2) := by decide +kernel
theorem dX7_command_40 : decode cX7_command 40 = .ok (.if_icmp .ne 8, 3) := by decide +kernel
theorem dX7_command_43 : decode cX7_command 43 = .ok (.aload_n 0, 1) := by decide +kernel
theorem dX7_command_44 : decode cX7_command 44 = .ok (.iconst 5, 1) := by decide +kernel
theorem dX7_command_45 : decode cX7_command 45 = .ok (.invokevirtual 128, 3) := by decide +kernel
theorem dX7_command_48 : decode cX7_command 48 = .ok (.aload_n 0, 1) := by decide +kernel
theorem dX7_command_49 : decode cX7_command 49 = .ok (.invokevirtual 121, 3) := by decide +kernel
theorem dX7_command_52 : decode cX7_command 52 = .ok (.ifCond .ne 4, 3) := by decide +kernel
theorem dX7_command_55 : decode cX7_command 55 = .ok (.return_, 1) := by decide +kernel
theorem dX7_command_56 : decode cX7_command 56 = .ok (.aload_n 0, 1) := by decide +kernel
theorem dX7_command_57 : decode cX7_command 57 = .ok (.dup, 1) := by decide +kernel
theorem dX7_command_58 : decode cX7_command 58 = .ok (.getfield 475, 3) := by decide +kernel
theorem dX7_command_61 : decode cX7_command 61 = .ok (.iconst 1, 1) := by decide +kernel
theorem dX7_command_62 : decode cX7_command 62 = .ok (.iadd, 1) := by decide +kernel
theorem dX7_command_63 : decode cX7_command 63 = .ok (.putfield 475, 3) := by decide +kernel
theorem dX7_command_66 : decode cX7_command 66 = .ok (.aload_n 0, 1) := by decide +kernel
theorem dX7_command_67 : decode cX7_command 67 = .ok (.invokevirtual 131, 3) := by decide +kernel
theorem dX7_command_70 : decode cX7_command 70 = .ok (.aload_n 0, 1) := by decide +kernel
theorem dX7_command_71 : decode cX7_command 71 = .ok (.getfield 478, 3) := by decide +kernel
theorem dX7_command_74 : decode cX7_command 74 = .ok (.istore_n 2, 1) := by decide +kernel
theorem dX7_command_75 : decode cX7_command 75 = .ok (.aload_n 0, 1) := by decide +kernel
theorem dX7_command_76 : decode cX7_command 76 = .ok (.getfield 45, 3) := by decide +kernel
theorem dX7_command_79 : decode cX7_command 79 = .ok (.iload_n 2, 1) := by decide +kernel
theorem dX7_command_80 : decode cX7_command 80 = .ok (.iload_n 1, 1) := by decide +kernel
theorem dX7_command_81 : decode cX7_command 81 = .ok (.iastore, 1) := by decide +kernel
theorem dX7_command_82 : decode cX7_command 82 = .ok (.aload_n 0, 1) := by decide +kernel
theorem dX7_command_83 : decode cX7_command 83 = .ok (.iload_n 2, 1) := by decide +kernel
theorem dX7_command_84 : decode cX7_command 84 = .ok (.iload_n 1, 1) := by decide +kernel
theorem dX7_command_85 : decode cX7_command 85 = .ok (.invokevirtual 481, 3) := by decide +kernel
theorem dX7_command_88 : decode cX7_command 88 = .ok (.aload_n 0, 1) := by decide +kernel
theorem dX7_command_89 : decode cX7_command 89 = .ok (.invokevirtual 121, 3) := by decide +kernel
theorem dX7_command_92 : decode cX7_command 92 = .ok (.ifCond .ne 4, 3) := by decide +kernel
theorem dX7_command_95 : decode cX7_command 95 = .ok (.return_, 1) := by decide +kernel
theorem dX7_command_96 : decode cX7_command 96 = .ok (.aload_n 0, 1) := by decide +kernel
theorem dX7_command_97 : decode cX7_command 97 = .ok (.dup, 1) := by decide +kernel
theorem dX7_command_98 : decode cX7_command 98 = .ok (.getfield 478, 3) := by decide +kernel
theorem dX7_command_101 : decode cX7_command 101 = .ok (.iconst 1, 1) := by decide +kernel
theorem dX7_command_102 : decode cX7_command 102 = .ok (.iadd, 1) := by decide +kernel
theorem dX7_command_103 : decode cX7_command 103 = .ok (.putfield 478, 3) := by decide +kernel
theorem dX7_command_106 : decode cX7_command 106 = .ok (.aload_n 0, 1) := by decide +kernel
theorem dX7_command_107 : decode cX7_command 107 = .ok (.dup, 1) := by decide +kernel
theorem dX7_command_108 : decode cX7_command 108 = .ok (.getfield 472, 3) := by decide +kernel
theorem dX7_command_111 : decode cX7_command 111 = .ok (.iload_n 1, 1) := by decide +kernel
theorem dX7_command_112 : decode cX7_command 112 = .ok (.bipush 7, 2) := by decide +kernel
theorem dX7_command_114 : decode cX7_command 114 = .ok (.if_icmp .ne 7, 3) := by decide +kernel
theorem dX7_command_117 : decode cX7_command 117 = .ok (.iconst 1, 1) := by decide +kernel
theorem dX7_command_118 : decode cX7_command 118 = .ok (.goto 4, 3) := by decide +kernel
theorem dX7_command_121 : decode cX7_command 121 = .ok (.iconst 0, 1) := by decide +kernel
theorem dX7_command_122 : decode cX7_command 122 = .ok (.invokestatic 69, 3) := by decide +kernel
theorem dX7_command_125 : decode cX7_command 125 = .ok (.iadd, 1) := by decide +kernel
theorem dX7_command_126 : decode cX7_command 126 = .ok (.putfield 472, 3) := by decide +kernel
theorem dX7_command_129 : decode cX7_command 129 = .ok (.return_, 1) := by decide +kernel
theorem dX7_closes_0 : decode cX7_closes 0 = .ok (.aload_n 0, 1) := by decide +kernel
theorem dX7_closes_1 : decode cX7_closes 1 = .ok (.getfield 472, 3) := by decide +kernel
theorem dX7_closes_4 : decode cX7_closes 4 = .ok (.ifCond .le 56, 3) := by decide +kernel
theorem dX7_closes_7 : decode cX7_closes 7 = .ok (.aload_n 0, 1) := by decide +kernel
theorem dX7_closes_8 : decode cX7_closes 8 = .ok (.bipush 41, 2) := by decide +kernel
theorem dX7_closes_10 : decode cX7_closes 10 = .ok (.invokevirtual 125, 3) := by decide +kernel
theorem dX7_closes_13 : decode cX7_closes 13 = .ok (.ifCond .eq 47, 3) := by decide +kernel
theorem dX7_closes_16 : decode cX7_closes 16 = .ok (.aload_n 0, 1) := by decide +kernel
theorem dX7_closes_17 : decode cX7_closes 17 = .ok (.dup, 1) := by decide +kernel
theorem dX7_closes_18 : decode cX7_closes 18 = .ok (.getfield 472, 3) := by decide +kernel
theorem dX7_closes_21 : decode cX7_closes 21 = .ok (.iconst 1, 1) := by decide +kernel
theorem dX7_closes_22 : decode cX7_closes 22 = .ok (.isub, 1) := by decide +kernel
theorem dX7_closes_23 : decode cX7_closes 23 = .ok (.putfield 472, 3) := by decide +kernel
theorem dX7_closes_26 : decode cX7_closes 26 = .ok (.aload_n 0, 1) := by decide +kernel
theorem dX7_closes_27 : decode cX7_closes 27 = .ok (.getfield 45, 3) := by decide +kernel
theorem dX7_closes_30 : decode cX7_closes 30 = .ok (.aload_n 0, 1) := by decide +kernel
theorem dX7_closes_31 : decode cX7_closes 31 = .ok (.getfield 478, 3) := by decide +kernel
theorem dX7_closes_34 : decode cX7_closes 34 = .ok (.bipush 8, 2) := by decide +kernel
theorem dX7_closes_36 : decode cX7_closes 36 = .ok (.iastore, 1) := by decide +kernel
theorem dX7_closes_37 : decode cX7_closes 37 = .ok (.aload_n 0, 1) := by decide +kernel
theorem dX7_closes_38 : decode cX7_closes 38 = .ok (.dup, 1) := by decide +kernel
theorem dX7_closes_39 : decode cX7_closes 39 = .ok (.getfield 478, 3) := by decide +kernel
theorem dX7_closes_42 : decode cX7_closes 42 = .ok (.iconst 1, 1) := by decide +kernel
theorem dX7_closes_43 : decode cX7_closes 43 = .ok (.iadd, 1) := by decide +kernel
theorem dX7_closes_44 : decode cX7_closes 44 = .ok (.putfield 478, 3) := by decide +kernel
theorem dX7_closes_47 : decode cX7_closes 47 = .ok (.aload_n 0, 1) := by decide +kernel
theorem dX7_closes_48 : decode cX7_closes 48 = .ok (.invokevirtual 131, 3) := by decide +kernel
theorem dX7_closes_51 : decode cX7_closes 51 = .ok (.aload_n 0, 1) := by decide +kernel
theorem dX7_closes_52 : decode cX7_closes 52 = .ok (.bipush 59, 2) := by decide +kernel
theorem dX7_closes_54 : decode cX7_closes 54 = .ok (.invokevirtual 236, 3) := by decide +kernel
theorem dX7_closes_57 : decode cX7_closes 57 = .ok (.goto (-57), 3) := by decide +kernel
theorem dX7_closes_60 : decode cX7_closes 60 = .ok (.return_, 1) := by decide +kernel
theorem dX7_may_0 : decode cX7_may 0 = .ok (.aload_n 0, 1) := by decide +kernel
theorem dX7_may_1 : decode cX7_may 1 = .ok (.getfield 48, 3) := by decide +kernel
theorem dX7_may_4 : decode cX7_may 4 = .ok (.iload_n 1, 1) := by decide +kernel
theorem dX7_may_5 : decode cX7_may 5 = .ok (.iaload, 1) := by decide +kernel
theorem dX7_may_6 : decode cX7_may 6 = .ok (.istore_n 2, 1) := by decide +kernel
theorem dX7_may_7 : decode cX7_may 7 = .ok (.aload_n 0, 1) := by decide +kernel
theorem dX7_may_8 : decode cX7_may 8 = .ok (.getfield 51, 3) := by decide +kernel
theorem dX7_may_11 : decode cX7_may 11 = .ok (.iload_n 1, 1) := by decide +kernel
theorem dX7_may_12 : decode cX7_may 12 = .ok (.iaload, 1) := by decide +kernel
theorem dX7_may_13 : decode cX7_may 13 = .ok (.istore_n 3, 1) := by decide +kernel
theorem dX7_may_14 : decode cX7_may 14 = .ok (.aload_n 0, 1) := by decide +kernel
theorem dX7_may_15 : decode cX7_may 15 = .ok (.getfield 45, 3) := by decide +kernel
theorem dX7_may_18 : decode cX7_may 18 = .ok (.iload_n 1, 1) := by decide +kernel
theorem dX7_may_19 : decode cX7_may 19 = .ok (.iaload, 1) := by decide +kernel
theorem dX7_may_20 : decode cX7_may 20 = .ok (.tableswitch 102 0 5 #[40, 61, 68, 75, 82, 87], 40) := by decide +kernel
theorem dX7_may_60 : decode cX7_may 60 = .ok (.iload_n 2, 1) := by decide +kernel
theorem dX7_may_61 : decode cX7_may 61 = .ok (.invokestatic 420, 3) := by decide +kernel
theorem dX7_may_64 : decode cX7_may 64 = .ok (.ifCond .eq 15, 3) := by decide +kernel
theorem dX7_may_67 : decode cX7_may 67 = .ok (.aload_n 0, 1) := by decide +kernel
theorem dX7_may_68 : decode cX7_may 68 = .ok (.iload_n 2, 1) := by decide +kernel
theorem dX7_may_69 : decode cX7_may 69 = .ok (.invokevirtual 423, 3) := by decide +kernel
theorem dX7_may_72 : decode cX7_may 72 = .ok (.ifCond .eq 7, 3) := by decide +kernel
theorem dX7_may_75 : decode cX7_may 75 = .ok (.iconst 1, 1) := by decide +kernel
theorem dX7_may_76 : decode cX7_may 76 = .ok (.goto 4, 3) := by decide +kernel
theorem dX7_may_79 : decode cX7_may 79 = .ok (.iconst 0, 1) := by decide +kernel
theorem dX7_may_80 : decode cX7_may 80 = .ok (.ireturn, 1) := by decide +kernel
theorem dX7_may_81 : decode cX7_may 81 = .ok (.aload_n 0, 1) := by decide +kernel
theorem dX7_may_82 : decode cX7_may 82 = .ok (.iload_n 2, 1) := by decide +kernel
theorem dX7_may_83 : decode cX7_may 83 = .ok (.iconst 0, 1) := by decide +kernel
theorem dX7_may_84 : decode cX7_may 84 = .ok (.invokevirtual 297, 3) := by decide +kernel
theorem dX7_may_87 : decode cX7_may 87 = .ok (.ireturn, 1) := by decide +kernel
theorem dX7_may_88 : decode cX7_may 88 = .ok (.aload_n 0, 1) := by decide +kernel
theorem dX7_may_89 : decode cX7_may 89 = .ok (.iload_n 2, 1) := by decide +kernel
theorem dX7_may_90 : decode cX7_may 90 = .ok (.iload_n 3, 1) := by decide +kernel
theorem dX7_may_91 : decode cX7_may 91 = .ok (.invokevirtual 434, 3) := by decide +kernel
theorem dX7_may_94 : decode cX7_may 94 = .ok (.ireturn, 1) := by decide +kernel
theorem dX7_may_95 : decode cX7_may 95 = .ok (.aload_n 0, 1) := by decide +kernel
theorem dX7_may_96 : decode cX7_may 96 = .ok (.iload_n 2, 1) := by decide +kernel
theorem dX7_may_97 : decode cX7_may 97 = .ok (.iload_n 3, 1) := by decide +kernel
theorem dX7_may_98 : decode cX7_may 98 = .ok (.invokevirtual 440, 3) := by decide +kernel
theorem dX7_may_101 : decode cX7_may 101 = .ok (.ireturn, 1) := by decide +kernel
theorem dX7_may_102 : decode cX7_may 102 = .ok (.iload_n 3, 1) := by decide +kernel
theorem dX7_may_103 : decode cX7_may 103 = .ok (.invokestatic 445, 3) := by decide +kernel
theorem dX7_may_106 : decode cX7_may 106 = .ok (.ireturn, 1) := by decide +kernel
theorem dX7_may_107 : decode cX7_may 107 = .ok (.aload_n 0, 1) := by decide +kernel
theorem dX7_may_108 : decode cX7_may 108 = .ok (.iload_n 2, 1) := by decide +kernel
theorem dX7_may_109 : decode cX7_may 109 = .ok (.iload_n 3, 1) := by decide +kernel
theorem dX7_may_110 : decode cX7_may 110 = .ok (.invokevirtual 208, 3) := by decide +kernel
theorem dX7_may_113 : decode cX7_may 113 = .ok (.ifCond .ne 7, 3) := by decide +kernel
theorem dX7_may_116 : decode cX7_may 116 = .ok (.iconst 1, 1) := by decide +kernel
theorem dX7_may_117 : decode cX7_may 117 = .ok (.goto 4, 3) := by decide +kernel
theorem dX7_may_120 : decode cX7_may 120 = .ok (.iconst 0, 1) := by decide +kernel
theorem dX7_may_121 : decode cX7_may 121 = .ok (.ireturn, 1) := by decide +kernel
theorem dX7_may_122 : decode cX7_may 122 = .ok (.aload_n 0, 1) := by decide +kernel
theorem dX7_may_123 : decode cX7_may 123 = .ok (.iload_n 2, 1) := by decide +kernel
theorem dX7_may_124 : decode cX7_may 124 = .ok (.iload_n 3, 1) := by decide +kernel
theorem dX7_may_125 : decode cX7_may 125 = .ok (.invokevirtual 208, 3) := by decide +kernel
theorem dX7_may_128 : decode cX7_may 128 = .ok (.ireturn, 1) := by decide +kernel
theorem dX7_does_0 : decode cX7_does 0 = .ok (.aload_n 0, 1) := by decide +kernel
theorem dX7_does_1 : decode cX7_does 1 = .ok (.getfield 48, 3) := by decide +kernel
theorem dX7_does_4 : decode cX7_does 4 = .ok (.iload_n 1, 1) := by decide +kernel
theorem dX7_does_5 : decode cX7_does 5 = .ok (.iaload, 1) := by decide +kernel
theorem dX7_does_6 : decode cX7_does 6 = .ok (.istore_n 2, 1) := by decide +kernel
theorem dX7_does_7 : decode cX7_does 7 = .ok (.aload_n 0, 1) := by decide +kernel
theorem dX7_does_8 : decode cX7_does 8 = .ok (.getfield 51, 3) := by decide +kernel
theorem dX7_does_11 : decode cX7_does 11 = .ok (.iload_n 1, 1) := by decide +kernel
theorem dX7_does_12 : decode cX7_does 12 = .ok (.iaload, 1) := by decide +kernel
theorem dX7_does_13 : decode cX7_does 13 = .ok (.istore_n 3, 1) := by decide +kernel
theorem dX7_does_14 : decode cX7_does 14 = .ok (.aload_n 0, 1) := by decide +kernel
theorem dX7_does_15 : decode cX7_does 15 = .ok (.getfield 45, 3) := by decide +kernel
theorem dX7_does_18 : decode cX7_does 18 = .ok (.iload_n 1, 1) := by decide +kernel
theorem dX7_does_19 : decode cX7_does 19 = .ok (.iaload, 1) := by decide +kernel
theorem dX7_does_20 : decode cX7_does 20 = .ok (.tableswitch 77 0 4 #[36, 42, 48, 59, 70], 36) := by decide +kernel
theorem dX7_does_56 : decode cX7_does 56 = .ok (.aload_n 0, 1) := by decide +kernel
theorem dX7_does_57 : decode cX7_does 57 = .ok (.iload_n 2, 1) := by decide +kernel
theorem dX7_does_58 : decode cX7_does 58 = .ok (.invokevirtual 387, 3) := by decide +kernel
theorem dX7_does_61 : decode cX7_does 61 = .ok (.ireturn, 1) := by decide +kernel
theorem dX7_does_62 : decode cX7_does 62 = .ok (.aload_n 0, 1) := by decide +kernel
theorem dX7_does_63 : decode cX7_does 63 = .ok (.iload_n 2, 1) := by decide +kernel
theorem dX7_does_64 : decode cX7_does 64 = .ok (.invokevirtual 429, 3) := by decide +kernel
theorem dX7_does_67 : decode cX7_does 67 = .ok (.ireturn, 1) := by decide +kernel
theorem dX7_does_68 : decode cX7_does 68 = .ok (.aload_n 0, 1) := by decide +kernel
theorem dX7_does_69 : decode cX7_does 69 = .ok (.iload_n 2, 1) := by decide +kernel
theorem dX7_does_70 : decode cX7_does 70 = .ok (.iconst 0, 1) := by decide +kernel
theorem dX7_does_71 : decode cX7_does 71 = .ok (.invokestatic 145, 3) := by decide +kernel
theorem dX7_does_74 : decode cX7_does 74 = .ok (.iload_n 3, 1) := by decide +kernel
theorem dX7_does_75 : decode cX7_does 75 = .ok (.invokevirtual 437, 3) := by decide +kernel
theorem dX7_does_78 : decode cX7_does 78 = .ok (.ireturn, 1) := by decide +kernel
theorem dX7_does_79 : decode cX7_does 79 = .ok (.aload_n 0, 1) := by decide +kernel
theorem dX7_does_80 : decode cX7_does 80 = .ok (.iload_n 2, 1) := by decide +kernel
theorem dX7_does_81 : decode cX7_does 81 = .ok (.iconst 1, 1) := by decide +kernel
theorem dX7_does_82 : decode cX7_does 82 = .ok (.invokestatic 145, 3) := by decide +kernel
theorem dX7_does_85 : decode cX7_does 85 = .ok (.iload_n 3, 1) := by decide +kernel
theorem dX7_does_86 : decode cX7_does 86 = .ok (.invokevirtual 437, 3) := by decide +kernel
theorem dX7_does_89 : decode cX7_does 89 = .ok (.ireturn, 1) := by decide +kernel
theorem dX7_does_90 : decode cX7_does 90 = .ok (.aload_n 0, 1) := by decide +kernel
theorem dX7_does_91 : decode cX7_does 91 = .ok (.iload_n 2, 1) := by decide +kernel
theorem dX7_does_92 : decode cX7_does 92 = .ok (.iload_n 3, 1) := by decide +kernel
theorem dX7_does_93 : decode cX7_does 93 = .ok (.invokevirtual 448, 3) := by decide +kernel
theorem dX7_does_96 : decode cX7_does 96 = .ok (.ireturn, 1) := by decide +kernel
theorem dX7_does_97 : decode cX7_does 97 = .ok (.aload_n 0, 1) := by decide +kernel
theorem dX7_does_98 : decode cX7_does 98 = .ok (.iload_n 2, 1) := by decide +kernel
theorem dX7_does_99 : decode cX7_does 99 = .ok (.iload_n 3, 1) := by decide +kernel
theorem dX7_does_100 : decode cX7_does 100 = .ok (.aload_n 0, 1) := by decide +kernel
theorem dX7_does_101 : decode cX7_does 101 = .ok (.getfield 45, 3) := by decide +kernel
theorem dX7_does_104 : decode cX7_does 104 = .ok (.iload_n 1, 1) := by decide +kernel
theorem dX7_does_105 : decode cX7_does 105 = .ok (.iaload, 1) := by decide +kernel
theorem dX7_does_106 : decode cX7_does 106 = .ok (.iconst 5, 1) := by decide +kernel
theorem dX7_does_107 : decode cX7_does 107 = .ok (.if_icmp .ne 7, 3) := by decide +kernel
theorem dX7_does_110 : decode cX7_does 110 = .ok (.iconst 1, 1) := by decide +kernel
theorem dX7_does_111 : decode cX7_does 111 = .ok (.goto 4, 3) := by decide +kernel
theorem dX7_does_114 : decode cX7_does 114 = .ok (.iconst 0, 1) := by decide +kernel
theorem dX7_does_115 : decode cX7_does 115 = .ok (.invokevirtual 211, 3) := by decide +kernel
theorem dX7_does_118 : decode cX7_does 118 = .ok (.iconst 1, 1) := by decide +kernel
theorem dX7_does_119 : decode cX7_does 119 = .ok (.ireturn, 1) := by decide +kernel
theorem dX7_doesAll_0 : decode cX7_doesAll 0 = .ok (.iconst 0, 1) := by decide +kernel
theorem dX7_doesAll_1 : decode cX7_doesAll 1 = .ok (.istore_n 1, 1) := by decide +kernel
theorem dX7_doesAll_2 : decode cX7_doesAll 2 = .ok (.iconst 0, 1) := by decide +kernel
theorem dX7_doesAll_3 : decode cX7_doesAll 3 = .ok (.istore_n 2, 1) := by decide +kernel
theorem dX7_doesAll_4 : decode cX7_doesAll 4 = .ok (.iconst 0, 1) := by decide +kernel
theorem dX7_doesAll_5 : decode cX7_doesAll 5 = .ok (.istore_n 3, 1) := by decide +kernel
theorem dX7_doesAll_6 : decode cX7_doesAll 6 = .ok (.iconst 1, 1) := by decide +kernel
theorem dX7_doesAll_7 : decode cX7_doesAll 7 = .ok (.istore 4, 2) := by decide +kernel
theorem dX7_doesAll_9 : decode cX7_doesAll 9 = .ok (.iload 4, 2) := by decide +kernel
theorem dX7_doesAll_11 : decode cX7_doesAll 11 = .ok (.ifCond .eq 175, 3) := by decide +kernel
theorem dX7_doesAll_14 : decode cX7_doesAll 14 = .ok (.iload_n 3, 1) := by decide +kernel
theorem dX7_doesAll_15 : decode cX7_doesAll 15 = .ok (.aload_n 0, 1) := by decide +kernel
theorem dX7_doesAll_16 : decode cX7_doesAll 16 = .ok (.getfield 478, 3) := by decide +kernel
theorem dX7_doesAll_19 : decode cX7_doesAll 19 = .ok (.if_icmp .ge 167, 3) := by decide +kernel
theorem dX7_doesAll_22 : decode cX7_doesAll 22 = .ok (.iload_n 1, 1) := by decide +kernel
theorem dX7_doesAll_23 : decode cX7_doesAll 23 = .ok (.bipush 40, 2) := by decide +kernel
theorem dX7_doesAll_25 : decode cX7_doesAll 25 = .ok (.if_icmp .ge 161, 3) := by decide +kernel
theorem dX7_doesAll_28 : decode cX7_doesAll 28 = .ok (.aload_n 0, 1) := by decide +kernel
theorem dX7_doesAll_29 : decode cX7_doesAll 29 = .ok (.getfield 45, 3) := by decide +kernel
theorem dX7_doesAll_32 : decode cX7_doesAll 32 = .ok (.iload_n 3, 1) := by decide +kernel
theorem dX7_doesAll_33 : decode cX7_doesAll 33 = .ok (.iaload, 1) := by decide +kernel
theorem dX7_doesAll_34 : decode cX7_doesAll 34 = .ok (.bipush 7, 2) := by decide +kernel
theorem dX7_doesAll_36 : decode cX7_doesAll 36 = .ok (.if_icmp .ne 31, 3) := by decide +kernel
theorem dX7_doesAll_39 : decode cX7_doesAll 39 = .ok (.aload_n 0, 1) := by decide +kernel
theorem dX7_doesAll_40 : decode cX7_doesAll 40 = .ok (.getfield 54, 3) := by decide +kernel
theorem dX7_doesAll_43 : decode cX7_doesAll 43 = .ok (.iload_n 2, 1) := by decide +kernel
theorem dX7_doesAll_44 : decode cX7_doesAll 44 = .ok (.iload_n 3, 1) := by decide +kernel
theorem dX7_doesAll_45 : decode cX7_doesAll 45 = .ok (.iastore, 1) := by decide +kernel
theorem dX7_doesAll_46 : decode cX7_doesAll 46 = .ok (.aload_n 0, 1) := by decide +kernel
theorem dX7_doesAll_47 : decode cX7_doesAll 47 = .ok (.getfield 57, 3) := by decide +kernel
theorem dX7_doesAll_50 : decode cX7_doesAll 50 = .ok (.iload_n 2, 1) := by decide +kernel
theorem dX7_doesAll_51 : decode cX7_doesAll 51 = .ok (.aload_n 0, 1) := by decide +kernel
theorem dX7_doesAll_52 : decode cX7_doesAll 52 = .ok (.getfield 48, 3) := by decide +kernel
theorem dX7_doesAll_55 : decode cX7_doesAll 55 = .ok (.iload_n 3, 1) := by decide +kernel
theorem dX7_doesAll_56 : decode cX7_doesAll 56 = .ok (.iaload, 1) := by decide +kernel
theorem dX7_doesAll_57 : decode cX7_doesAll 57 = .ok (.iastore, 1) := by decide +kernel
theorem dX7_doesAll_58 : decode cX7_doesAll 58 = .ok (.iinc 2 1, 3) := by decide +kernel
theorem dX7_doesAll_61 : decode cX7_doesAll 61 = .ok (.iinc 3 1, 3) := by decide +kernel
theorem dX7_doesAll_64 : decode cX7_doesAll 64 = .ok (.goto (-55), 3) := by decide +kernel
theorem dX7_doesAll_67 : decode cX7_doesAll 67 = .ok (.aload_n 0, 1) := by decide +kernel
theorem dX7_doesAll_68 : decode cX7_doesAll 68 = .ok (.getfield 45, 3) := by decide +kernel
theorem dX7_doesAll_71 : decode cX7_doesAll 71 = .ok (.iload_n 3, 1) := by decide +kernel
theorem dX7_doesAll_72 : decode cX7_doesAll 72 = .ok (.iaload, 1) := by decide +kernel
theorem dX7_doesAll_73 : decode cX7_doesAll 73 = .ok (.bipush 8, 2) := by decide +kernel
theorem dX7_doesAll_75 : decode cX7_doesAll 75 = .ok (.if_icmp .ne 74, 3) := by decide +kernel
theorem dX7_doesAll_78 : decode cX7_doesAll 78 = .ok (.aload_n 0, 1) := by decide +kernel
theorem dX7_doesAll_79 : decode cX7_doesAll 79 = .ok (.getfield 57, 3) := by decide +kernel
theorem dX7_doesAll_82 : decode cX7_doesAll 82 = .ok (.iload_n 2, 1) := by decide +kernel
theorem dX7_doesAll_83 : decode cX7_doesAll 83 = .ok (.iconst 1, 1) := by decide +kernel
theorem dX7_doesAll_84 : decode cX7_doesAll 84 = .ok (.isub, 1) := by decide +kernel
theorem dX7_doesAll_85 : decode cX7_doesAll 85 = .ok (.dup2, 1) := by decide +kernel
theorem dX7_doesAll_86 : decode cX7_doesAll 86 = .ok (.iaload, 1) := by decide +kernel
theorem dX7_doesAll_87 : decode cX7_doesAll 87 = .ok (.iconst 1, 1) := by decide +kernel
theorem dX7_doesAll_88 : decode cX7_doesAll 88 = .ok (.isub, 1) := by decide +kernel
theorem dX7_doesAll_89 : decode cX7_doesAll 89 = .ok (.iastore, 1) := by decide +kernel
theorem dX7_doesAll_90 : decode cX7_doesAll 90 = .ok (.aload_n 0, 1) := by decide +kernel
theorem dX7_doesAll_91 : decode cX7_doesAll 91 = .ok (.getfield 57, 3) := by decide +kernel
theorem dX7_doesAll_94 : decode cX7_doesAll 94 = .ok (.iload_n 2, 1) := by decide +kernel
theorem dX7_doesAll_95 : decode cX7_doesAll 95 = .ok (.iconst 1, 1) := by decide +kernel
theorem dX7_doesAll_96 : decode cX7_doesAll 96 = .ok (.isub, 1) := by decide +kernel
theorem dX7_doesAll_97 : decode cX7_doesAll 97 = .ok (.iaload, 1) := by decide +kernel
theorem dX7_doesAll_98 : decode cX7_doesAll 98 = .ok (.ifCond .le 7, 3) := by decide +kernel
theorem dX7_doesAll_101 : decode cX7_doesAll 101 = .ok (.iconst 1, 1) := by decide +kernel
theorem dX7_doesAll_102 : decode cX7_doesAll 102 = .ok (.goto 4, 3) := by decide +kernel
theorem dX7_doesAll_105 : decode cX7_doesAll 105 = .ok (.iconst 0, 1) := by decide +kernel
theorem dX7_doesAll_106 : decode cX7_doesAll 106 = .ok (.istore 5, 2) := by decide +kernel
theorem dX7_doesAll_108 : decode cX7_doesAll 108 = .ok (.iload 5, 2) := by decide +kernel
theorem dX7_doesAll_110 : decode cX7_doesAll 110 = .ok (.ifCond .eq 16, 3) := by decide +kernel
theorem dX7_doesAll_113 : decode cX7_doesAll 113 = .ok (.aload_n 0, 1) := by decide +kernel
theorem dX7_doesAll_114 : decode cX7_doesAll 114 = .ok (.getfield 54, 3) := by decide +kernel
theorem dX7_doesAll_117 : decode cX7_doesAll 117 = .ok (.iload_n 2, 1) := by decide +kernel
theorem dX7_doesAll_118 : decode cX7_doesAll 118 = .ok (.iconst 1, 1) := by decide +kernel
theorem dX7_doesAll_119 : decode cX7_doesAll 119 = .ok (.isub, 1) := by decide +kernel
theorem dX7_doesAll_120 : decode cX7_doesAll 120 = .ok (.iaload, 1) := by decide +kernel
theorem dX7_doesAll_121 : decode cX7_doesAll 121 = .ok (.iconst 1, 1) := by decide +kernel
theorem dX7_doesAll_122 : decode cX7_doesAll 122 = .ok (.iadd, 1) := by decide +kernel
theorem dX7_doesAll_123 : decode cX7_doesAll 123 = .ok (.goto 6, 3) := by decide +kernel
theorem dX7_doesAll_126 : decode cX7_doesAll 126 = .ok (.iload_n 3, 1) := by decide +kernel
theorem dX7_doesAll_127 : decode cX7_doesAll 127 = .ok (.iconst 1, 1) := by decide +kernel
theorem dX7_doesAll_128 : decode cX7_doesAll 128 = .ok (.iadd, 1) := by decide +kernel
theorem dX7_doesAll_129 : decode cX7_doesAll 129 = .ok (.istore_n 3, 1) := by decide +kernel
theorem dX7_doesAll_130 : decode cX7_doesAll 130 = .ok (.iload_n 2, 1) := by decide +kernel
theorem dX7_doesAll_131 : decode cX7_doesAll 131 = .ok (.iload 5, 2) := by decide +kernel
theorem dX7_doesAll_133 : decode cX7_doesAll 133 = .ok (.ifCond .ne 7, 3) := by decide +kernel
theorem dX7_doesAll_136 : decode cX7_doesAll 136 = .ok (.iconst 1, 1) := by decide +kernel
theorem dX7_doesAll_137 : decode cX7_doesAll 137 = .ok (.goto 4, 3) := by decide +kernel
theorem dX7_doesAll_140 : decode cX7_doesAll 140 = .ok (.iconst 0, 1) := by decide +kernel
theorem dX7_doesAll_141 : decode cX7_doesAll 141 = .ok (.invokestatic 69, 3) := by decide +kernel
theorem dX7_doesAll_144 : decode cX7_doesAll 144 = .ok (.isub, 1) := by decide +kernel
theorem dX7_doesAll_145 : decode cX7_doesAll 145 = .ok (.istore_n 2, 1) := by decide +kernel
theorem dX7_doesAll_146 : decode cX7_doesAll 146 = .ok (.goto (-137), 3) := by decide +kernel
theorem dX7_doesAll_149 : decode cX7_doesAll 149 = .ok (.aload_n 0, 1) := by decide +kernel
theorem dX7_doesAll_150 : decode cX7_doesAll 150 = .ok (.iload_n 3, 1) := by decide +kernel
theorem dX7_doesAll_151 : decode cX7_doesAll 151 = .ok (.invokevirtual 493, 3) := by decide +kernel
theorem dX7_doesAll_154 : decode cX7_doesAll 154 = .ok (.istore 4, 2) := by decide +kernel
theorem dX7_doesAll_156 : decode cX7_doesAll 156 = .ok (.iload 4, 2) := by decide +kernel
theorem dX7_doesAll_158 : decode cX7_doesAll 158 = .ok (.ifCond .eq 11, 3) := by decide +kernel
theorem dX7_doesAll_161 : decode cX7_doesAll 161 = .ok (.aload_n 0, 1) := by decide +kernel
theorem dX7_doesAll_162 : decode cX7_doesAll 162 = .ok (.iload_n 3, 1) := by decide +kernel
theorem dX7_doesAll_163 : decode cX7_doesAll 163 = .ok (.invokevirtual 496, 3) := by decide +kernel
theorem dX7_doesAll_166 : decode cX7_doesAll 166 = .ok (.goto 4, 3) := by decide +kernel
theorem dX7_doesAll_169 : decode cX7_doesAll 169 = .ok (.iconst 0, 1) := by decide +kernel
theorem dX7_doesAll_170 : decode cX7_doesAll 170 = .ok (.istore 5, 2) := by decide +kernel
theorem dX7_doesAll_172 : decode cX7_doesAll 172 = .ok (.iload_n 1, 1) := by decide +kernel
theorem dX7_doesAll_173 : decode cX7_doesAll 173 = .ok (.iload 4, 2) := by decide +kernel
theorem dX7_doesAll_175 : decode cX7_doesAll 175 = .ok (.invokestatic 69, 3) := by decide +kernel
theorem dX7_doesAll_178 : decode cX7_doesAll 178 = .ok (.iadd, 1) := by decide +kernel
theorem dX7_doesAll_179 : decode cX7_doesAll 179 = .ok (.istore_n 1, 1) := by decide +kernel
theorem dX7_doesAll_180 : decode cX7_doesAll 180 = .ok (.iinc 3 1, 3) := by decide +kernel
theorem dX7_doesAll_183 : decode cX7_doesAll 183 = .ok (.goto (-174), 3) := by decide +kernel
theorem dX7_doesAll_186 : decode cX7_doesAll 186 = .ok (.iload_n 1, 1) := by decide +kernel
theorem dX7_doesAll_187 : decode cX7_doesAll 187 = .ok (.ireturn, 1) := by decide +kernel
theorem dX7_runScript_0 : decode cX7_runScript 0 = .ok (.aload_n 0, 1) := by decide +kernel
theorem dX7_runScript_1 : decode cX7_runScript 1 = .ok (.invokevirtual 239, 3) := by decide +kernel
theorem dX7_runScript_4 : decode cX7_runScript 4 = .ok (.aload_n 0, 1) := by decide +kernel
theorem dX7_runScript_5 : decode cX7_runScript 5 = .ok (.iconst 0, 1) := by decide +kernel
theorem dX7_runScript_6 : decode cX7_runScript 6 = .ok (.putfield 478, 3) := by decide +kernel
theorem dX7_runScript_9 : decode cX7_runScript 9 = .ok (.aload_n 0, 1) := by decide +kernel
theorem dX7_runScript_10 : decode cX7_runScript 10 = .ok (.iconst 0, 1) := by decide +kernel
theorem dX7_runScript_11 : decode cX7_runScript 11 = .ok (.putfield 475, 3) := by decide +kernel
theorem dX7_runScript_14 : decode cX7_runScript 14 = .ok (.aload_n 0, 1) := by decide +kernel
theorem dX7_runScript_15 : decode cX7_runScript 15 = .ok (.iconst 0, 1) := by decide +kernel
theorem dX7_runScript_16 : decode cX7_runScript 16 = .ok (.putfield 472, 3) := by decide +kernel
theorem dX7_runScript_19 : decode cX7_runScript 19 = .ok (.aload_n 0, 1) := by decide +kernel
theorem dX7_runScript_20 : decode cX7_runScript 20 = .ok (.invokevirtual 121, 3) := by decide +kernel
theorem dX7_runScript_23 : decode cX7_runScript 23 = .ok (.ifCond .eq 40, 3) := by decide +kernel
theorem dX7_runScript_26 : decode cX7_runScript 26 = .ok (.aload_n 0, 1) := by decide +kernel
theorem dX7_runScript_27 : decode cX7_runScript 27 = .ok (.getfield 108, 3) := by decide +kernel
theorem dX7_runScript_30 : decode cX7_runScript 30 = .ok (.ifCond .eq 33, 3) := by decide +kernel
theorem dX7_runScript_33 : decode cX7_runScript 33 = .ok (.aload_n 0, 1) := by decide +kernel
theorem dX7_runScript_34 : decode cX7_runScript 34 = .ok (.getfield 472, 3) := by decide +kernel
theorem dX7_runScript_37 : decode cX7_runScript 37 = .ok (.istore_n 1, 1) := by decide +kernel
theorem dX7_runScript_38 : decode cX7_runScript 38 = .ok (.aload_n 0, 1) := by decide +kernel
theorem dX7_runScript_39 : decode cX7_runScript 39 = .ok (.invokevirtual 484, 3) := by decide +kernel
theorem dX7_runScript_42 : decode cX7_runScript 42 = .ok (.aload_n 0, 1) := by decide +kernel
theorem dX7_runScript_43 : decode cX7_runScript 43 = .ok (.getfield 472, 3) := by decide +kernel
theorem dX7_runScript_46 : decode cX7_runScript 46 = .ok (.iload_n 1, 1) := by decide +kernel
theorem dX7_runScript_47 : decode cX7_runScript 47 = .ok (.if_icmp .ne 9, 3) := by decide +kernel
theorem dX7_runScript_50 : decode cX7_runScript 50 = .ok (.aload_n 0, 1) := by decide +kernel
theorem dX7_runScript_51 : decode cX7_runScript 51 = .ok (.bipush 59, 2) := by decide +kernel
theorem dX7_runScript_53 : decode cX7_runScript 53 = .ok (.invokevirtual 236, 3) := by decide +kernel
theorem dX7_runScript_56 : decode cX7_runScript 56 = .ok (.aload_n 0, 1) := by decide +kernel
theorem dX7_runScript_57 : decode cX7_runScript 57 = .ok (.invokevirtual 487, 3) := by decide +kernel
theorem dX7_runScript_60 : decode cX7_runScript 60 = .ok (.goto (-41), 3) := by decide +kernel
theorem dX7_runScript_63 : decode cX7_runScript 63 = .ok (.aload_n 0, 1) := by decide +kernel
theorem dX7_runScript_64 : decode cX7_runScript 64 = .ok (.invokevirtual 121, 3) := by decide +kernel
theorem dX7_runScript_67 : decode cX7_runScript 67 = .ok (.ifCond .eq 15, 3) := by decide +kernel
theorem dX7_runScript_70 : decode cX7_runScript 70 = .ok (.aload_n 0, 1) := by decide +kernel
theorem dX7_runScript_71 : decode cX7_runScript 71 = .ok (.getfield 472, 3) := by decide +kernel
theorem dX7_runScript_74 : decode cX7_runScript 74 = .ok (.ifCond .le 8, 3) := by decide +kernel
theorem dX7_runScript_77 : decode cX7_runScript 77 = .ok (.aload_n 0, 1) := by decide +kernel
theorem dX7_runScript_78 : decode cX7_runScript 78 = .ok (.iconst 1, 1) := by decide +kernel
theorem dX7_runScript_79 : decode cX7_runScript 79 = .ok (.invokevirtual 128, 3) := by decide +kernel
theorem dX7_runScript_82 : decode cX7_runScript 82 = .ok (.aload_n 0, 1) := by decide +kernel
theorem dX7_runScript_83 : decode cX7_runScript 83 = .ok (.invokevirtual 248, 3) := by decide +kernel
theorem dX7_runScript_86 : decode cX7_runScript 86 = .ok (.ifCond .ne 5, 3) := by decide +kernel
theorem dX7_runScript_89 : decode cX7_runScript 89 = .ok (.iconst 0, 1) := by decide +kernel
theorem dX7_runScript_90 : decode cX7_runScript 90 = .ok (.ireturn, 1) := by decide +kernel
theorem dX7_runScript_91 : decode cX7_runScript 91 = .ok (.aload_n 0, 1) := by decide +kernel
theorem dX7_runScript_92 : decode cX7_runScript 92 = .ok (.invokevirtual 242, 3) := by decide +kernel
theorem dX7_runScript_95 : decode cX7_runScript 95 = .ok (.aload_n 0, 1) := by decide +kernel
theorem dX7_runScript_96 : decode cX7_runScript 96 = .ok (.invokevirtual 490, 3) := by decide +kernel
theorem dX7_runScript_99 : decode cX7_runScript 99 = .ok (.istore_n 1, 1) := by decide +kernel
theorem dX7_runScript_100 : decode cX7_runScript 100 = .ok (.aload_n 0, 1) := by decide +kernel
theorem dX7_runScript_101 : decode cX7_runScript 101 = .ok (.invokevirtual 159, 3) := by decide +kernel
theorem dX7_runScript_104 : decode cX7_runScript 104 = .ok (.iload_n 1, 1) := by decide +kernel
theorem dX7_runScript_105 : decode cX7_runScript 105 = .ok (.ireturn, 1) := by decide +kernel
theorem dX7_tell_0 : decode cX7_tell 0 = .ok (.aload_n 0, 1) := by decide +kernel
theorem dX7_tell_1 : decode cX7_tell 1 = .ok (.getfield 60, 3) := by decide +kernel
theorem dX7_tell_4 : decode cX7_tell 4 = .ok (.aload_n 0, 1) := by decide +kernel
theorem dX7_tell_5 : decode cX7_tell 5 = .ok (.getfield 499, 3) := by decide +kernel
theorem dX7_tell_8 : decode cX7_tell 8 = .ok (.iload_n 1, 1) := by decide +kernel
theorem dX7_tell_9 : decode cX7_tell 9 = .ok (.iastore, 1) := by decide +kernel
theorem dX7_tell_10 : decode cX7_tell 10 = .ok (.aload_n 0, 1) := by decide +kernel
theorem dX7_tell_11 : decode cX7_tell 11 = .ok (.dup, 1) := by decide +kernel
theorem dX7_tell_12 : decode cX7_tell 12 = .ok (.getfield 499, 3) := by decide +kernel
theorem dX7_tell_15 : decode cX7_tell 15 = .ok (.iconst 1, 1) := by decide +kernel
theorem dX7_tell_16 : decode cX7_tell 16 = .ok (.iadd, 1) := by decide +kernel
theorem dX7_tell_17 : decode cX7_tell 17 = .ok (.putfield 499, 3) := by decide +kernel
theorem dX7_tell_20 : decode cX7_tell 20 = .ok (.return_, 1) := by decide +kernel
theorem dX7_tellNumber_0 : decode cX7_tellNumber 0 = .ok (.iconst 1, 1) := by decide +kernel
theorem dX7_tellNumber_1 : decode cX7_tellNumber 1 = .ok (.istore_n 2, 1) := by decide +kernel
theorem dX7_tellNumber_2 : decode cX7_tellNumber 2 = .ok (.iload_n 1, 1) := by decide +kernel
theorem dX7_tellNumber_3 : decode cX7_tellNumber 3 = .ok (.iload_n 2, 1) := by decide +kernel
theorem dX7_tellNumber_4 : decode cX7_tellNumber 4 = .ok (.idiv, 1) := by decide +kernel
theorem dX7_tellNumber_5 : decode cX7_tellNumber 5 = .ok (.bipush 9, 2) := by decide +kernel
theorem dX7_tellNumber_7 : decode cX7_tellNumber 7 = .ok (.if_icmp .le 11, 3) := by decide +kernel
theorem dX7_tellNumber_10 : decode cX7_tellNumber 10 = .ok (.iload_n 2, 1) := by decide +kernel
theorem dX7_tellNumber_11 : decode cX7_tellNumber 11 = .ok (.bipush 10, 2) := by decide +kernel
theorem dX7_tellNumber_13 : decode cX7_tellNumber 13 = .ok (.imul, 1) := by decide +kernel
theorem dX7_tellNumber_14 : decode cX7_tellNumber 14 = .ok (.istore_n 2, 1) := by decide +kernel
theorem dX7_tellNumber_15 : decode cX7_tellNumber 15 = .ok (.goto (-13), 3) := by decide +kernel
theorem dX7_tellNumber_18 : decode cX7_tellNumber 18 = .ok (.iload_n 2, 1) := by decide +kernel
theorem dX7_tellNumber_19 : decode cX7_tellNumber 19 = .ok (.istore_n 3, 1) := by decide +kernel
theorem dX7_tellNumber_20 : decode cX7_tellNumber 20 = .ok (.iload_n 3, 1) := by decide +kernel
theorem dX7_tellNumber_21 : decode cX7_tellNumber 21 = .ok (.ifCond .le 24, 3) := by decide +kernel
theorem dX7_tellNumber_24 : decode cX7_tellNumber 24 = .ok (.aload_n 0, 1) := by decide +kernel
theorem dX7_tellNumber_25 : decode cX7_tellNumber 25 = .ok (.bipush 48, 2) := by decide +kernel
theorem dX7_tellNumber_27 : decode cX7_tellNumber 27 = .ok (.iload_n 1, 1) := by decide +kernel
theorem dX7_tellNumber_28 : decode cX7_tellNumber 28 = .ok (.iload_n 3, 1) := by decide +kernel
theorem dX7_tellNumber_29 : decode cX7_tellNumber 29 = .ok (.idiv, 1) := by decide +kernel
theorem dX7_tellNumber_30 : decode cX7_tellNumber 30 = .ok (.bipush 10, 2) := by decide +kernel
theorem dX7_tellNumber_32 : decode cX7_tellNumber 32 = .ok (.irem, 1) := by decide +kernel
theorem dX7_tellNumber_33 : decode cX7_tellNumber 33 = .ok (.iadd, 1) := by decide +kernel
theorem dX7_tellNumber_34 : decode cX7_tellNumber 34 = .ok (.invokevirtual 502, 3) := by decide +kernel
theorem dX7_tellNumber_37 : decode cX7_tellNumber 37 = .ok (.iload_n 3, 1) := by decide +kernel
theorem dX7_tellNumber_38 : decode cX7_tellNumber 38 = .ok (.bipush 10, 2) := by decide +kernel
theorem dX7_tellNumber_40 : decode cX7_tellNumber 40 = .ok (.idiv, 1) := by decide +kernel
theorem dX7_tellNumber_41 : decode cX7_tellNumber 41 = .ok (.istore_n 3, 1) := by decide +kernel
theorem dX7_tellNumber_42 : decode cX7_tellNumber 42 = .ok (.goto (-22), 3) := by decide +kernel
theorem dX7_tellNumber_45 : decode cX7_tellNumber 45 = .ok (.return_, 1) := by decide +kernel
theorem dX7_tellName_0 : decode cX7_tellName 0 = .ok (.iconst 0, 1) := by decide +kernel
theorem dX7_tellName_1 : decode cX7_tellName 1 = .ok (.istore_n 3, 1) := by decide +kernel
theorem dX7_tellName_2 : decode cX7_tellName 2 = .ok (.iload_n 3, 1) := by decide +kernel
theorem dX7_tellName_3 : decode cX7_tellName 3 = .ok (.lload_n 1, 1) := by decide +kernel
theorem dX7_tellName_4 : decode cX7_tellName 4 = .ok (.invokestatic 360, 3) := by decide +kernel
theorem dX7_tellName_7 : decode cX7_tellName 7 = .ok (.if_icmp .ge 18, 3) := by decide +kernel
theorem dX7_tellName_10 : decode cX7_tellName 10 = .ok (.aload_n 0, 1) := by decide +kernel
theorem dX7_tellName_11 : decode cX7_tellName 11 = .ok (.lload_n 1, 1) := by decide +kernel
theorem dX7_tellName_12 : decode cX7_tellName 12 = .ok (.iload_n 3, 1) := by decide +kernel
theorem dX7_tellName_13 : decode cX7_tellName 13 = .ok (.invokestatic 366, 3) := by decide +kernel
theorem dX7_tellName_16 : decode cX7_tellName 16 = .ok (.invokevirtual 502, 3) := by decide +kernel
theorem dX7_tellName_19 : decode cX7_tellName 19 = .ok (.iinc 3 1, 3) := by decide +kernel
theorem dX7_tellName_22 : decode cX7_tellName 22 = .ok (.goto (-20), 3) := by decide +kernel
theorem dX7_tellName_25 : decode cX7_tellName 25 = .ok (.return_, 1) := by decide +kernel
theorem dX7_wordOf_0 : decode cX7_wordOf 0 = .ok (.iload_n 1, 1) := by decide +kernel
theorem dX7_wordOf_1 : decode cX7_wordOf 1 = .ok (.tableswitch 47 0 3 #[31, 35, 39, 43], 31) := by decide +kernel
theorem dX7_wordOf_32 : decode cX7_wordOf 32 = .ok (.ldc2_w 505, 3) := by decide +kernel
theorem dX7_wordOf_35 : decode cX7_wordOf 35 = .ok (.lreturn, 1) := by decide +kernel
theorem dX7_wordOf_36 : decode cX7_wordOf 36 = .ok (.ldc2_w 199, 3) := by decide +kernel
theorem dX7_wordOf_39 : decode cX7_wordOf 39 = .ok (.lreturn, 1) := by decide +kernel
theorem dX7_wordOf_40 : decode cX7_wordOf 40 = .ok (.ldc2_w 507, 3) := by decide +kernel
theorem dX7_wordOf_43 : decode cX7_wordOf 43 = .ok (.lreturn, 1) := by decide +kernel
theorem dX7_wordOf_44 : decode cX7_wordOf 44 = .ok (.ldc2_w 201, 3) := by decide +kernel
theorem dX7_wordOf_47 : decode cX7_wordOf 47 = .ok (.lreturn, 1) := by decide +kernel
theorem dX7_wordOf_48 : decode cX7_wordOf 48 = .ok (.ldc2_w 509, 3) := by decide +kernel
theorem dX7_wordOf_51 : decode cX7_wordOf 51 = .ok (.lreturn, 1) := by decide +kernel
theorem dX7_tellBeacon_0 : decode cX7_tellBeacon 0 = .ok (.aload_n 0, 1) := by decide +kernel
theorem dX7_tellBeacon_1 : decode cX7_tellBeacon 1 = .ok (.aload_n 0, 1) := by decide +kernel
theorem dX7_tellBeacon_2 : decode cX7_tellBeacon 2 = .ok (.getfield 35, 3) := by decide +kernel
theorem dX7_tellBeacon_5 : decode cX7_tellBeacon 5 = .ok (.iload_n 1, 1) := by decide +kernel
theorem dX7_tellBeacon_6 : decode cX7_tellBeacon 6 = .ok (.laload, 1) := by decide +kernel
theorem dX7_tellBeacon_7 : decode cX7_tellBeacon 7 = .ok (.invokevirtual 511, 3) := by decide +kernel
theorem dX7_tellBeacon_10 : decode cX7_tellBeacon 10 = .ok (.aload_n 0, 1) := by decide +kernel
theorem dX7_tellBeacon_11 : decode cX7_tellBeacon 11 = .ok (.bipush 32, 2) := by decide +kernel
theorem dX7_tellBeacon_13 : decode cX7_tellBeacon 13 = .ok (.invokevirtual 502, 3) := by decide +kernel
theorem dX7_tellBeacon_16 : decode cX7_tellBeacon 16 = .ok (.aload_n 0, 1) := by decide +kernel
theorem dX7_tellBeacon_17 : decode cX7_tellBeacon 17 = .ok (.aload_n 0, 1) := by decide +kernel
theorem dX7_tellBeacon_18 : decode cX7_tellBeacon 18 = .ok (.aload_n 0, 1) := by decide +kernel
theorem dX7_tellBeacon_19 : decode cX7_tellBeacon 19 = .ok (.iload_n 1, 1) := by decide +kernel
theorem dX7_tellBeacon_20 : decode cX7_tellBeacon 20 = .ok (.iconst 5, 1) := by decide +kernel
theorem dX7_tellBeacon_21 : decode cX7_tellBeacon 21 = .ok (.invokevirtual 251, 3) := by decide +kernel
theorem dX7_tellBeacon_24 : decode cX7_tellBeacon 24 = .ok (.invokevirtual 514, 3) := by decide +kernel
theorem dX7_tellBeacon_27 : decode cX7_tellBeacon 27 = .ok (.invokevirtual 511, 3) := by decide +kernel
theorem dX7_tellBeacon_30 : decode cX7_tellBeacon 30 = .ok (.aload_n 0, 1) := by decide +kernel
theorem dX7_tellBeacon_31 : decode cX7_tellBeacon 31 = .ok (.bipush 32, 2) := by decide +kernel
theorem dX7_tellBeacon_33 : decode cX7_tellBeacon 33 = .ok (.invokevirtual 502, 3) := by decide +kernel
theorem dX7_tellBeacon_36 : decode cX7_tellBeacon 36 = .ok (.aload_n 0, 1) := by decide +kernel
theorem dX7_tellBeacon_37 : decode cX7_tellBeacon 37 = .ok (.aload_n 0, 1) := by decide +kernel
theorem dX7_tellBeacon_38 : decode cX7_tellBeacon 38 = .ok (.iload_n 1, 1) := by decide +kernel
theorem dX7_tellBeacon_39 : decode cX7_tellBeacon 39 = .ok (.bipush 6, 2) := by decide +kernel
theorem dX7_tellBeacon_41 : decode cX7_tellBeacon 41 = .ok (.invokevirtual 251, 3) := by decide +kernel
theorem dX7_tellBeacon_44 : decode cX7_tellBeacon 44 = .ok (.invokevirtual 518, 3) := by decide +kernel
theorem dX7_tellBeacon_47 : decode cX7_tellBeacon 47 = .ok (.aload_n 0, 1) := by decide +kernel
theorem dX7_tellBeacon_48 : decode cX7_tellBeacon 48 = .ok (.bipush 32, 2) := by decide +kernel
theorem dX7_tellBeacon_50 : decode cX7_tellBeacon 50 = .ok (.invokevirtual 502, 3) := by decide +kernel
theorem dX7_tellBeacon_53 : decode cX7_tellBeacon 53 = .ok (.aload_n 0, 1) := by decide +kernel
theorem dX7_tellBeacon_54 : decode cX7_tellBeacon 54 = .ok (.aload_n 0, 1) := by decide +kernel
theorem dX7_tellBeacon_55 : decode cX7_tellBeacon 55 = .ok (.iload_n 1, 1) := by decide +kernel
theorem dX7_tellBeacon_56 : decode cX7_tellBeacon 56 = .ok (.iconst 4, 1) := by decide +kernel
theorem dX7_tellBeacon_57 : decode cX7_tellBeacon 57 = .ok (.invokevirtual 251, 3) := by decide +kernel
theorem dX7_tellBeacon_60 : decode cX7_tellBeacon 60 = .ok (.invokevirtual 518, 3) := by decide +kernel
theorem dX7_tellBeacon_63 : decode cX7_tellBeacon 63 = .ok (.iconst 0, 1) := by decide +kernel
theorem dX7_tellBeacon_64 : decode cX7_tellBeacon 64 = .ok (.istore_n 2, 1) := by decide +kernel
theorem dX7_tellBeacon_65 : decode cX7_tellBeacon 65 = .ok (.iload_n 2, 1) := by decide +kernel
theorem dX7_tellBeacon_66 : decode cX7_tellBeacon 66 = .ok (.aload_n 0, 1) := by decide +kernel
theorem dX7_tellBeacon_67 : decode cX7_tellBeacon 67 = .ok (.getfield 20, 3) := by decide +kernel
theorem dX7_tellBeacon_70 : decode cX7_tellBeacon 70 = .ok (.iconst 0, 1) := by decide +kernel
theorem dX7_tellBeacon_71 : decode cX7_tellBeacon 71 = .ok (.iaload, 1) := by decide +kernel
theorem dX7_tellBeacon_72 : decode cX7_tellBeacon 72 = .ok (.if_icmp .ge 43, 3) := by decide +kernel
theorem dX7_tellBeacon_75 : decode cX7_tellBeacon 75 = .ok (.aload_n 0, 1) := by decide +kernel
theorem dX7_tellBeacon_76 : decode cX7_tellBeacon 76 = .ok (.iload_n 1, 1) := by decide +kernel
theorem dX7_tellBeacon_77 : decode cX7_tellBeacon 77 = .ok (.iload_n 2, 1) := by decide +kernel
theorem dX7_tellBeacon_78 : decode cX7_tellBeacon 78 = .ok (.invokevirtual 254, 3) := by decide +kernel
theorem dX7_tellBeacon_81 : decode cX7_tellBeacon 81 = .ok (.ifCond .ne 6, 3) := by decide +kernel
theorem dX7_tellBeacon_84 : decode cX7_tellBeacon 84 = .ok (.goto 25, 3) := by decide +kernel
theorem dX7_tellBeacon_87 : decode cX7_tellBeacon 87 = .ok (.aload_n 0, 1) := by decide +kernel
theorem dX7_tellBeacon_88 : decode cX7_tellBeacon 88 = .ok (.bipush 32, 2) := by decide +kernel
theorem dX7_tellBeacon_90 : decode cX7_tellBeacon 90 = .ok (.invokevirtual 502, 3) := by decide +kernel
theorem dX7_tellBeacon_93 : decode cX7_tellBeacon 93 = .ok (.aload_n 0, 1) := by decide +kernel
theorem dX7_tellBeacon_94 : decode cX7_tellBeacon 94 = .ok (.bipush 43, 2) := by decide +kernel
theorem dX7_tellBeacon_96 : decode cX7_tellBeacon 96 = .ok (.invokevirtual 502, 3) := by decide +kernel
theorem dX7_tellBeacon_99 : decode cX7_tellBeacon 99 = .ok (.aload_n 0, 1) := by decide +kernel
theorem dX7_tellBeacon_100 : decode cX7_tellBeacon 100 = .ok (.aload_n 0, 1) := by decide +kernel
theorem dX7_tellBeacon_101 : decode cX7_tellBeacon 101 = .ok (.getfield 35, 3) := by decide +kernel
theorem dX7_tellBeacon_104 : decode cX7_tellBeacon 104 = .ok (.iload_n 2, 1) := by decide +kernel
theorem dX7_tellBeacon_105 : decode cX7_tellBeacon 105 = .ok (.laload, 1) := by decide +kernel
theorem dX7_tellBeacon_106 : decode cX7_tellBeacon 106 = .ok (.invokevirtual 511, 3) := by decide +kernel
theorem dX7_tellBeacon_109 : decode cX7_tellBeacon 109 = .ok (.iinc 2 1, 3) := by decide +kernel
theorem dX7_tellBeacon_112 : decode cX7_tellBeacon 112 = .ok (.goto (-47), 3) := by decide +kernel
theorem dX7_tellBeacon_115 : decode cX7_tellBeacon 115 = .ok (.aload_n 0, 1) := by decide +kernel
theorem dX7_tellBeacon_116 : decode cX7_tellBeacon 116 = .ok (.bipush 10, 2) := by decide +kernel
theorem dX7_tellBeacon_118 : decode cX7_tellBeacon 118 = .ok (.invokevirtual 502, 3) := by decide +kernel
theorem dX7_tellBeacon_121 : decode cX7_tellBeacon 121 = .ok (.return_, 1) := by decide +kernel
theorem dX7_report_0 : decode cX7_report 0 = .ok (.aload_n 0, 1) := by decide +kernel
theorem dX7_report_1 : decode cX7_report 1 = .ok (.iconst 0, 1) := by decide +kernel
theorem dX7_report_2 : decode cX7_report 2 = .ok (.putfield 66, 3) := by decide +kernel
theorem dX7_report_5 : decode cX7_report 5 = .ok (.aload_n 0, 1) := by decide +kernel
theorem dX7_report_6 : decode cX7_report 6 = .ok (.iconst 0, 1) := by decide +kernel
theorem dX7_report_7 : decode cX7_report 7 = .ok (.putfield 499, 3) := by decide +kernel
theorem dX7_report_10 : decode cX7_report 10 = .ok (.aload_n 0, 1) := by decide +kernel
theorem dX7_report_11 : decode cX7_report 11 = .ok (.iconst 1, 1) := by decide +kernel
theorem dX7_report_12 : decode cX7_report 12 = .ok (.putfield 521, 3) := by decide +kernel
theorem dX7_report_15 : decode cX7_report 15 = .ok (.iconst 0, 1) := by decide +kernel
theorem dX7_report_16 : decode cX7_report 16 = .ok (.istore_n 1, 1) := by decide +kernel
theorem dX7_report_17 : decode cX7_report 17 = .ok (.iload_n 1, 1) := by decide +kernel
theorem dX7_report_18 : decode cX7_report 18 = .ok (.aload_n 0, 1) := by decide +kernel
theorem dX7_report_19 : decode cX7_report 19 = .ok (.getfield 20, 3) := by decide +kernel
theorem dX7_report_22 : decode cX7_report 22 = .ok (.iconst 0, 1) := by decide +kernel
theorem dX7_report_23 : decode cX7_report 23 = .ok (.iaload, 1) := by decide +kernel
theorem dX7_report_24 : decode cX7_report 24 = .ok (.if_icmp .ge 14, 3) := by decide +kernel
theorem dX7_report_27 : decode cX7_report 27 = .ok (.aload_n 0, 1) := by decide +kernel
theorem dX7_report_28 : decode cX7_report 28 = .ok (.iload_n 1, 1) := by decide +kernel
theorem dX7_report_29 : decode cX7_report 29 = .ok (.invokevirtual 524, 3) := by decide +kernel
theorem dX7_report_32 : decode cX7_report 32 = .ok (.iinc 1 1, 3) := by decide +kernel
theorem dX7_report_35 : decode cX7_report 35 = .ok (.goto (-18), 3) := by decide +kernel
theorem dX7_report_38 : decode cX7_report 38 = .ok (.aload_n 0, 1) := by decide +kernel
theorem dX7_report_39 : decode cX7_report 39 = .ok (.getfield 499, 3) := by decide +kernel
theorem dX7_report_42 : decode cX7_report 42 = .ok (.ireturn, 1) := by decide +kernel
theorem dX7_reportByte_0 : decode cX7_reportByte 0 = .ok (.aload_n 0, 1) := by decide +kernel
theorem dX7_reportByte_1 : decode cX7_reportByte 1 = .ok (.aload_n 0, 1) := by decide +kernel
theorem dX7_reportByte_2 : decode cX7_reportByte 2 = .ok (.getfield 521, 3) := by decide +kernel
theorem dX7_reportByte_5 : decode cX7_reportByte 5 = .ok (.ifCond .eq 23, 3) := by decide +kernel
theorem dX7_reportByte_8 : decode cX7_reportByte 8 = .ok (.iload_n 1, 1) := by decide +kernel
theorem dX7_reportByte_9 : decode cX7_reportByte 9 = .ok (.i2l, 1) := by decide +kernel
theorem dX7_reportByte_10 : decode cX7_reportByte 10 = .ok (.lconst 0, 1) := by decide +kernel
theorem dX7_reportByte_11 : decode cX7_reportByte 11 = .ok (.aload_n 0, 1) := by decide +kernel
theorem dX7_reportByte_12 : decode cX7_reportByte 12 = .ok (.getfield 499, 3) := by decide +kernel
theorem dX7_reportByte_15 : decode cX7_reportByte 15 = .ok (.iconst 1, 1) := by decide +kernel
theorem dX7_reportByte_16 : decode cX7_reportByte 16 = .ok (.isub, 1) := by decide +kernel
theorem dX7_reportByte_17 : decode cX7_reportByte 17 = .ok (.i2l, 1) := by decide +kernel
theorem dX7_reportByte_18 : decode cX7_reportByte 18 = .ok (.invokestatic 84, 3) := by decide +kernel
theorem dX7_reportByte_21 : decode cX7_reportByte 21 = .ok (.ifCond .eq 7, 3) := by decide +kernel
theorem dX7_reportByte_24 : decode cX7_reportByte 24 = .ok (.iconst 1, 1) := by decide +kernel
theorem dX7_reportByte_25 : decode cX7_reportByte 25 = .ok (.goto 4, 3) := by decide +kernel
theorem dX7_reportByte_28 : decode cX7_reportByte 28 = .ok (.iconst 0, 1) := by decide +kernel
theorem dX7_reportByte_29 : decode cX7_reportByte 29 = .ok (.invokevirtual 76, 3) := by decide +kernel
theorem dX7_reportByte_32 : decode cX7_reportByte 32 = .ok (.ifCond .eq 12, 3) := by decide +kernel
theorem dX7_reportByte_35 : decode cX7_reportByte 35 = .ok (.aload_n 0, 1) := by decide +kernel
theorem dX7_reportByte_36 : decode cX7_reportByte 36 = .ok (.getfield 60, 3) := by decide +kernel
theorem dX7_reportByte_39 : decode cX7_reportByte 39 = .ok (.iload_n 1, 1) := by decide +kernel
theorem dX7_reportByte_40 : decode cX7_reportByte 40 = .ok (.iaload, 1) := by decide +kernel
theorem dX7_reportByte_41 : decode cX7_reportByte 41 = .ok (.goto 4, 3) := by decide +kernel
theorem dX7_reportByte_44 : decode cX7_reportByte 44 = .ok (.iconst 0, 1) := by decide +kernel
theorem dX7_reportByte_45 : decode cX7_reportByte 45 = .ok (.ireturn, 1) := by decide +kernel
