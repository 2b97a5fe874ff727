theorem d_De_init_0 : decode prog_1_method_1_code 0 = .ok (.aload_n 0, 1) := by decide +kernel
theorem d_De_init_1 : decode prog_1_method_1_code 1 = .ok (.invokespecial 3, 3) := by decide +kernel
theorem d_De_init_4 : decode prog_1_method_1_code 4 = .ok (.aload_n 0, 1) := by decide +kernel
theorem d_De_init_5 : decode prog_1_method_1_code 5 = .ok (.new 9, 3) := by decide +kernel
theorem d_De_init_8 : decode prog_1_method_1_code 8 = .ok (.dup, 1) := by decide +kernel
theorem d_De_init_9 : decode prog_1_method_1_code 9 = .ok (.invokespecial 11, 3) := by decide +kernel
theorem d_De_init_12 : decode prog_1_method_1_code 12 = .ok (.putfield 12, 3) := by decide +kernel
theorem d_De_init_15 : decode prog_1_method_1_code 15 = .ok (.aload_n 0, 1) := by decide +kernel
theorem d_De_init_16 : decode prog_1_method_1_code 16 = .ok (.new 16, 3) := by decide +kernel
theorem d_De_init_19 : decode prog_1_method_1_code 19 = .ok (.dup, 1) := by decide +kernel
theorem d_De_init_20 : decode prog_1_method_1_code 20 = .ok (.invokespecial 18, 3) := by decide +kernel
theorem d_De_init_23 : decode prog_1_method_1_code 23 = .ok (.putfield 19, 3) := by decide +kernel
theorem d_De_init_26 : decode prog_1_method_1_code 26 = .ok (.aload_n 0, 1) := by decide +kernel
theorem d_De_init_27 : decode prog_1_method_1_code 27 = .ok (.new 23, 3) := by decide +kernel
theorem d_De_init_30 : decode prog_1_method_1_code 30 = .ok (.dup, 1) := by decide +kernel
theorem d_De_init_31 : decode prog_1_method_1_code 31 = .ok (.invokespecial 25, 3) := by decide +kernel
theorem d_De_init_34 : decode prog_1_method_1_code 34 = .ok (.putfield 26, 3) := by decide +kernel
theorem d_De_init_37 : decode prog_1_method_1_code 37 = .ok (.aload_n 0, 1) := by decide +kernel
theorem d_De_init_38 : decode prog_1_method_1_code 38 = .ok (.new 30, 3) := by decide +kernel
theorem d_De_init_41 : decode prog_1_method_1_code 41 = .ok (.dup, 1) := by decide +kernel
theorem d_De_init_42 : decode prog_1_method_1_code 42 = .ok (.invokespecial 32, 3) := by decide +kernel
theorem d_De_init_45 : decode prog_1_method_1_code 45 = .ok (.putfield 33, 3) := by decide +kernel
theorem d_De_init_48 : decode prog_1_method_1_code 48 = .ok (.aload_n 0, 1) := by decide +kernel
theorem d_De_init_49 : decode prog_1_method_1_code 49 = .ok (.new 37, 3) := by decide +kernel
theorem d_De_init_52 : decode prog_1_method_1_code 52 = .ok (.dup, 1) := by decide +kernel
theorem d_De_init_53 : decode prog_1_method_1_code 53 = .ok (.invokespecial 39, 3) := by decide +kernel
theorem d_De_init_56 : decode prog_1_method_1_code 56 = .ok (.putfield 40, 3) := by decide +kernel
theorem d_De_init_59 : decode prog_1_method_1_code 59 = .ok (.aload_n 0, 1) := by decide +kernel
theorem d_De_init_60 : decode prog_1_method_1_code 60 = .ok (.iload_n 1, 1) := by decide +kernel
theorem d_De_init_61 : decode prog_1_method_1_code 61 = .ok (.iconst 3, 1) := by decide +kernel
theorem d_De_init_62 : decode prog_1_method_1_code 62 = .ok (.if_icmp .lt 13, 3) := by decide +kernel
theorem d_De_init_65 : decode prog_1_method_1_code 65 = .ok (.iload_n 1, 1) := by decide +kernel
theorem d_De_init_66 : decode prog_1_method_1_code 66 = .ok (.bipush 32, 2) := by decide +kernel
theorem d_De_init_68 : decode prog_1_method_1_code 68 = .ok (.if_icmp .gt 7, 3) := by decide +kernel
theorem d_De_init_71 : decode prog_1_method_1_code 71 = .ok (.iload_n 1, 1) := by decide +kernel
theorem d_De_init_72 : decode prog_1_method_1_code 72 = .ok (.goto 5, 3) := by decide +kernel
theorem d_De_init_75 : decode prog_1_method_1_code 75 = .ok (.bipush 32, 2) := by decide +kernel
theorem d_De_init_77 : decode prog_1_method_1_code 77 = .ok (.putfield 44, 3) := by decide +kernel
theorem d_De_init_80 : decode prog_1_method_1_code 80 = .ok (.aload_n 0, 1) := by decide +kernel
theorem d_De_init_81 : decode prog_1_method_1_code 81 = .ok (.iconst (-1), 1) := by decide +kernel
theorem d_De_init_82 : decode prog_1_method_1_code 82 = .ok (.putfield 48, 3) := by decide +kernel
theorem d_De_init_85 : decode prog_1_method_1_code 85 = .ok (.return_, 1) := by decide +kernel
theorem d_Ri_init_0 : decode prog_6_method_1_code 0 = .ok (.aload_n 0, 1) := by decide +kernel
theorem d_Ri_init_1 : decode prog_6_method_1_code 1 = .ok (.invokespecial 3, 3) := by decide +kernel
theorem d_Ri_init_4 : decode prog_6_method_1_code 4 = .ok (.aload_n 0, 1) := by decide +kernel
theorem d_Ri_init_5 : decode prog_6_method_1_code 5 = .ok (.bipush 32, 2) := by decide +kernel
theorem d_Ri_init_7 : decode prog_6_method_1_code 7 = .ok (.anewarray 9, 3) := by decide +kernel
theorem d_Ri_init_10 : decode prog_6_method_1_code 10 = .ok (.putfield 11, 3) := by decide +kernel
theorem d_Ri_init_13 : decode prog_6_method_1_code 13 = .ok (.return_, 1) := by decide +kernel
theorem d_Ha_init_0 : decode prog_4_method_1_code 0 = .ok (.aload_n 0, 1) := by decide +kernel
theorem d_Ha_init_1 : decode prog_4_method_1_code 1 = .ok (.invokespecial 3, 3) := by decide +kernel
theorem d_Ha_init_4 : decode prog_4_method_1_code 4 = .ok (.aload_n 0, 1) := by decide +kernel
theorem d_Ha_init_5 : decode prog_4_method_1_code 5 = .ok (.sipush 600, 3) := by decide +kernel
theorem d_Ha_init_8 : decode prog_4_method_1_code 8 = .ok (.newarray .byte, 2) := by decide +kernel
theorem d_Ha_init_10 : decode prog_4_method_1_code 10 = .ok (.putfield 9, 3) := by decide +kernel
theorem d_Ha_init_13 : decode prog_4_method_1_code 13 = .ok (.return_, 1) := by decide +kernel
theorem d_Wa_init_0 : decode prog_7_method_1_code 0 = .ok (.aload_n 0, 1) := by decide +kernel
theorem d_Wa_init_1 : decode prog_7_method_1_code 1 = .ok (.invokespecial 3, 3) := by decide +kernel
theorem d_Wa_init_4 : decode prog_7_method_1_code 4 = .ok (.aload_n 0, 1) := by decide +kernel
theorem d_Wa_init_5 : decode prog_7_method_1_code 5 = .ok (.bipush 6, 2) := by decide +kernel
theorem d_Wa_init_7 : decode prog_7_method_1_code 7 = .ok (.newarray .int, 2) := by decide +kernel
theorem d_Wa_init_9 : decode prog_7_method_1_code 9 = .ok (.putfield 9, 3) := by decide +kernel
theorem d_Wa_init_12 : decode prog_7_method_1_code 12 = .ok (.return_, 1) := by decide +kernel
theorem d_Pa_init_0 : decode prog_5_method_1_code 0 = .ok (.aload_n 0, 1) := by decide +kernel
theorem d_Pa_init_1 : decode prog_5_method_1_code 1 = .ok (.invokespecial 3, 3) := by decide +kernel
theorem d_Pa_init_4 : decode prog_5_method_1_code 4 = .ok (.aload_n 0, 1) := by decide +kernel
theorem d_Pa_init_5 : decode prog_5_method_1_code 5 = .ok (.bipush 32, 2) := by decide +kernel
theorem d_Pa_init_7 : decode prog_5_method_1_code 7 = .ok (.newarray .long, 2) := by decide +kernel
theorem d_Pa_init_9 : decode prog_5_method_1_code 9 = .ok (.putfield 9, 3) := by decide +kernel
theorem d_Pa_init_12 : decode prog_5_method_1_code 12 = .ok (.return_, 1) := by decide +kernel
theorem d_Di_init_0 : decode prog_3_method_1_code 0 = .ok (.aload_n 0, 1) := by decide +kernel
theorem d_Di_init_1 : decode prog_3_method_1_code 1 = .ok (.invokespecial 3, 3) := by decide +kernel
theorem d_Di_init_4 : decode prog_3_method_1_code 4 = .ok (.aload_n 0, 1) := by decide +kernel
theorem d_Di_init_5 : decode prog_3_method_1_code 5 = .ok (.iconst (-1), 1) := by decide +kernel
theorem d_Di_init_6 : decode prog_3_method_1_code 6 = .ok (.putfield 9, 3) := by decide +kernel
theorem d_Di_init_9 : decode prog_3_method_1_code 9 = .ok (.return_, 1) := by decide +kernel
theorem d_De_put_0 : decode prog_1_method_2_code 0 = .ok (.iload_n 3, 1) := by decide +kernel
theorem d_De_put_1 : decode prog_1_method_2_code 1 = .ok (.iconst 1, 1) := by decide +kernel
theorem d_De_put_2 : decode prog_1_method_2_code 2 = .ok (.if_icmp .lt 20, 3) := by decide +kernel
theorem d_De_put_5 : decode prog_1_method_2_code 5 = .ok (.iload_n 3, 1) := by decide +kernel
theorem d_De_put_6 : decode prog_1_method_2_code 6 = .ok (.bipush 8, 2) := by decide +kernel
theorem d_De_put_8 : decode prog_1_method_2_code 8 = .ok (.if_icmp .gt 14, 3) := by decide +kernel
theorem d_De_put_11 : decode prog_1_method_2_code 11 = .ok (.aload_n 0, 1) := by decide +kernel
theorem d_De_put_12 : decode prog_1_method_2_code 12 = .ok (.getfield 19, 3) := by decide +kernel
theorem d_De_put_15 : decode prog_1_method_2_code 15 = .ok (.iload_n 3, 1) := by decide +kernel
theorem d_De_put_16 : decode prog_1_method_2_code 16 = .ok (.invokevirtual 51, 3) := by decide +kernel
theorem d_De_put_19 : decode prog_1_method_2_code 19 = .ok (.ifCond .ne 5, 3) := by decide +kernel
theorem d_De_put_22 : decode prog_1_method_2_code 22 = .ok (.iconst 0, 1) := by decide +kernel
theorem d_De_put_23 : decode prog_1_method_2_code 23 = .ok (.ireturn, 1) := by decide +kernel
theorem d_De_put_24 : decode prog_1_method_2_code 24 = .ok (.iload_n 3, 1) := by decide +kernel
theorem d_De_put_25 : decode prog_1_method_2_code 25 = .ok (.iconst 1, 1) := by decide +kernel
theorem d_De_put_26 : decode prog_1_method_2_code 26 = .ok (.isub, 1) := by decide +kernel
theorem d_De_put_27 : decode prog_1_method_2_code 27 = .ok (.istore 4, 2) := by decide +kernel
theorem d_De_put_29 : decode prog_1_method_2_code 29 = .ok (.iload 4, 2) := by decide +kernel
theorem d_De_put_31 : decode prog_1_method_2_code 31 = .ok (.ifCond .lt 24, 3) := by decide +kernel
theorem d_De_put_34 : decode prog_1_method_2_code 34 = .ok (.aload_n 0, 1) := by decide +kernel
theorem d_De_put_35 : decode prog_1_method_2_code 35 = .ok (.getfield 19, 3) := by decide +kernel
theorem d_De_put_38 : decode prog_1_method_2_code 38 = .ok (.lload_n 1, 1) := by decide +kernel
theorem d_De_put_39 : decode prog_1_method_2_code 39 = .ok (.bipush 8, 2) := by decide +kernel
theorem d_De_put_41 : decode prog_1_method_2_code 41 = .ok (.iload 4, 2) := by decide +kernel
theorem d_De_put_43 : decode prog_1_method_2_code 43 = .ok (.imul, 1) := by decide +kernel
theorem d_De_put_44 : decode prog_1_method_2_code 44 = .ok (.lushr, 1) := by decide +kernel
theorem d_De_put_45 : decode prog_1_method_2_code 45 = .ok (.l2i, 1) := by decide +kernel
theorem d_De_put_46 : decode prog_1_method_2_code 46 = .ok (.invokevirtual 55, 3) := by decide +kernel
theorem d_De_put_49 : decode prog_1_method_2_code 49 = .ok (.iinc 4 (-1), 3) := by decide +kernel
theorem d_De_put_52 : decode prog_1_method_2_code 52 = .ok (.goto (-23), 3) := by decide +kernel
theorem d_De_put_55 : decode prog_1_method_2_code 55 = .ok (.iconst 1, 1) := by decide +kernel
theorem d_De_put_56 : decode prog_1_method_2_code 56 = .ok (.ireturn, 1) := by decide +kernel
theorem d_Ha_hasRoomFor_0 : decode prog_4_method_3_code 0 = .ok (.iload_n 1, 1) := by decide +kernel
theorem d_Ha_hasRoomFor_1 : decode prog_4_method_3_code 1 = .ok (.sipush 600, 3) := by decide +kernel
theorem d_Ha_hasRoomFor_4 : decode prog_4_method_3_code 4 = .ok (.aload_n 0, 1) := by decide +kernel
theorem d_Ha_hasRoomFor_5 : decode prog_4_method_3_code 5 = .ok (.getfield 15, 3) := by decide +kernel
theorem d_Ha_hasRoomFor_8 : decode prog_4_method_3_code 8 = .ok (.isub, 1) := by decide +kernel
theorem d_Ha_hasRoomFor_9 : decode prog_4_method_3_code 9 = .ok (.if_icmp .gt 7, 3) := by decide +kernel
theorem d_Ha_hasRoomFor_12 : decode prog_4_method_3_code 12 = .ok (.iconst 1, 1) := by decide +kernel
theorem d_Ha_hasRoomFor_13 : decode prog_4_method_3_code 13 = .ok (.goto 4, 3) := by decide +kernel
theorem d_Ha_hasRoomFor_16 : decode prog_4_method_3_code 16 = .ok (.iconst 0, 1) := by decide +kernel
theorem d_Ha_hasRoomFor_17 : decode prog_4_method_3_code 17 = .ok (.ireturn, 1) := by decide +kernel
theorem d_Ha_add_0 : decode prog_4_method_4_code 0 = .ok (.aload_n 0, 1) := by decide +kernel
theorem d_Ha_add_1 : decode prog_4_method_4_code 1 = .ok (.getfield 15, 3) := by decide +kernel
theorem d_Ha_add_4 : decode prog_4_method_4_code 4 = .ok (.ifCond .lt 34, 3) := by decide +kernel
theorem d_Ha_add_7 : decode prog_4_method_4_code 7 = .ok (.aload_n 0, 1) := by decide +kernel
theorem d_Ha_add_8 : decode prog_4_method_4_code 8 = .ok (.getfield 15, 3) := by decide +kernel
theorem d_Ha_add_11 : decode prog_4_method_4_code 11 = .ok (.sipush 600, 3) := by decide +kernel
theorem d_Ha_add_14 : decode prog_4_method_4_code 14 = .ok (.if_icmp .ge 24, 3) := by decide +kernel
theorem d_Ha_add_17 : decode prog_4_method_4_code 17 = .ok (.aload_n 0, 1) := by decide +kernel
theorem d_Ha_add_18 : decode prog_4_method_4_code 18 = .ok (.getfield 9, 3) := by decide +kernel
theorem d_Ha_add_21 : decode prog_4_method_4_code 21 = .ok (.aload_n 0, 1) := by decide +kernel
theorem d_Ha_add_22 : decode prog_4_method_4_code 22 = .ok (.getfield 15, 3) := by decide +kernel
theorem d_Ha_add_25 : decode prog_4_method_4_code 25 = .ok (.iload_n 1, 1) := by decide +kernel
theorem d_Ha_add_26 : decode prog_4_method_4_code 26 = .ok (.i2b, 1) := by decide +kernel
theorem d_Ha_add_27 : decode prog_4_method_4_code 27 = .ok (.bastore, 1) := by decide +kernel
theorem d_Ha_add_28 : decode prog_4_method_4_code 28 = .ok (.aload_n 0, 1) := by decide +kernel
theorem d_Ha_add_29 : decode prog_4_method_4_code 29 = .ok (.dup, 1) := by decide +kernel
theorem d_Ha_add_30 : decode prog_4_method_4_code 30 = .ok (.getfield 15, 3) := by decide +kernel
theorem d_Ha_add_33 : decode prog_4_method_4_code 33 = .ok (.iconst 1, 1) := by decide +kernel
theorem d_Ha_add_34 : decode prog_4_method_4_code 34 = .ok (.iadd, 1) := by decide +kernel
theorem d_Ha_add_35 : decode prog_4_method_4_code 35 = .ok (.putfield 15, 3) := by decide +kernel
theorem d_Ha_add_38 : decode prog_4_method_4_code 38 = .ok (.return_, 1) := by decide +kernel
theorem d_De_fill_0 : decode prog_1_method_3_code 0 = .ok (.iload_n 2, 1) := by decide +kernel
theorem d_De_fill_1 : decode prog_1_method_3_code 1 = .ok (.iconst 1, 1) := by decide +kernel
theorem d_De_fill_2 : decode prog_1_method_3_code 2 = .ok (.if_icmp .lt 21, 3) := by decide +kernel
theorem d_De_fill_5 : decode prog_1_method_3_code 5 = .ok (.iload_n 2, 1) := by decide +kernel
theorem d_De_fill_6 : decode prog_1_method_3_code 6 = .ok (.sipush 600, 3) := by decide +kernel
theorem d_De_fill_9 : decode prog_1_method_3_code 9 = .ok (.if_icmp .gt 14, 3) := by decide +kernel
theorem d_De_fill_12 : decode prog_1_method_3_code 12 = .ok (.aload_n 0, 1) := by decide +kernel
theorem d_De_fill_13 : decode prog_1_method_3_code 13 = .ok (.getfield 19, 3) := by decide +kernel
theorem d_De_fill_16 : decode prog_1_method_3_code 16 = .ok (.iload_n 2, 1) := by decide +kernel
theorem d_De_fill_17 : decode prog_1_method_3_code 17 = .ok (.invokevirtual 51, 3) := by decide +kernel
theorem d_De_fill_20 : decode prog_1_method_3_code 20 = .ok (.ifCond .ne 5, 3) := by decide +kernel
theorem d_De_fill_23 : decode prog_1_method_3_code 23 = .ok (.iconst 0, 1) := by decide +kernel
theorem d_De_fill_24 : decode prog_1_method_3_code 24 = .ok (.ireturn, 1) := by decide +kernel
theorem d_De_fill_25 : decode prog_1_method_3_code 25 = .ok (.iconst 0, 1) := by decide +kernel
theorem d_De_fill_26 : decode prog_1_method_3_code 26 = .ok (.istore_n 3, 1) := by decide +kernel
theorem d_De_fill_27 : decode prog_1_method_3_code 27 = .ok (.iload_n 3, 1) := by decide +kernel
theorem d_De_fill_28 : decode prog_1_method_3_code 28 = .ok (.iload_n 2, 1) := by decide +kernel
theorem d_De_fill_29 : decode prog_1_method_3_code 29 = .ok (.if_icmp .ge 17, 3) := by decide +kernel
theorem d_De_fill_32 : decode prog_1_method_3_code 32 = .ok (.aload_n 0, 1) := by decide +kernel
theorem d_De_fill_33 : decode prog_1_method_3_code 33 = .ok (.getfield 19, 3) := by decide +kernel
theorem d_De_fill_36 : decode prog_1_method_3_code 36 = .ok (.iload_n 1, 1) := by decide +kernel
theorem d_De_fill_37 : decode prog_1_method_3_code 37 = .ok (.invokevirtual 55, 3) := by decide +kernel
theorem d_De_fill_40 : decode prog_1_method_3_code 40 = .ok (.iinc 3 1, 3) := by decide +kernel
theorem d_De_fill_43 : decode prog_1_method_3_code 43 = .ok (.goto (-16), 3) := by decide +kernel
theorem d_De_fill_46 : decode prog_1_method_3_code 46 = .ok (.iconst 1, 1) := by decide +kernel
theorem d_De_fill_47 : decode prog_1_method_3_code 47 = .ok (.ireturn, 1) := by decide +kernel
theorem d_De_told_0 : decode prog_1_method_7_code 0 = .ok (.aload_n 0, 1) := by decide +kernel
theorem d_De_told_1 : decode prog_1_method_7_code 1 = .ok (.getfield 26, 3) := by decide +kernel
theorem d_De_told_4 : decode prog_1_method_7_code 4 = .ok (.invokevirtual 130, 3) := by decide +kernel
theorem d_De_told_7 : decode prog_1_method_7_code 7 = .ok (.istore_n 1, 1) := by decide +kernel
theorem d_De_told_8 : decode prog_1_method_7_code 8 = .ok (.iload_n 1, 1) := by decide +kernel
theorem d_De_told_9 : decode prog_1_method_7_code 9 = .ok (.iconst (-1), 1) := by decide +kernel
theorem d_De_told_10 : decode prog_1_method_7_code 10 = .ok (.if_icmp .eq 18, 3) := by decide +kernel
theorem d_De_told_13 : decode prog_1_method_7_code 13 = .ok (.aload_n 0, 1) := by decide +kernel
theorem d_De_told_14 : decode prog_1_method_7_code 14 = .ok (.getfield 26, 3) := by decide +kernel
theorem d_De_told_17 : decode prog_1_method_7_code 17 = .ok (.iload_n 1, 1) := by decide +kernel
theorem d_De_told_18 : decode prog_1_method_7_code 18 = .ok (.invokevirtual 133, 3) := by decide +kernel
theorem d_De_told_21 : decode prog_1_method_7_code 21 = .ok (.aload_n 0, 1) := by decide +kernel
theorem d_De_told_22 : decode prog_1_method_7_code 22 = .ok (.getfield 107, 3) := by decide +kernel
theorem d_De_told_25 : decode prog_1_method_7_code 25 = .ok (.if_icmp .le 5, 3) := by decide +kernel
theorem d_De_told_28 : decode prog_1_method_7_code 28 = .ok (.iconst (-1), 1) := by decide +kernel
theorem d_De_told_29 : decode prog_1_method_7_code 29 = .ok (.ireturn, 1) := by decide +kernel
theorem d_De_told_30 : decode prog_1_method_7_code 30 = .ok (.aload_n 0, 1) := by decide +kernel
theorem d_De_told_31 : decode prog_1_method_7_code 31 = .ok (.getfield 26, 3) := by decide +kernel
theorem d_De_told_34 : decode prog_1_method_7_code 34 = .ok (.iload_n 1, 1) := by decide +kernel
theorem d_De_told_35 : decode prog_1_method_7_code 35 = .ok (.invokevirtual 136, 3) := by decide +kernel
theorem d_De_told_38 : decode prog_1_method_7_code 38 = .ok (.iload_n 1, 1) := by decide +kernel
theorem d_De_told_39 : decode prog_1_method_7_code 39 = .ok (.ireturn, 1) := by decide +kernel
theorem d_Wa_first_0 : decode prog_7_method_7_code 0 = .ok (.iconst (-1), 1) := by decide +kernel
theorem d_Wa_first_1 : decode prog_7_method_7_code 1 = .ok (.istore_n 1, 1) := by decide +kernel
theorem d_Wa_first_2 : decode prog_7_method_7_code 2 = .ok (.iconst 0, 1) := by decide +kernel
theorem d_Wa_first_3 : decode prog_7_method_7_code 3 = .ok (.istore_n 2, 1) := by decide +kernel
theorem d_Wa_first_4 : decode prog_7_method_7_code 4 = .ok (.iload_n 2, 1) := by decide +kernel
theorem d_Wa_first_5 : decode prog_7_method_7_code 5 = .ok (.bipush 6, 2) := by decide +kernel
theorem d_Wa_first_7 : decode prog_7_method_7_code 7 = .ok (.if_icmp .ge 38, 3) := by decide +kernel
theorem d_Wa_first_10 : decode prog_7_method_7_code 10 = .ok (.aload_n 0, 1) := by decide +kernel
theorem d_Wa_first_11 : decode prog_7_method_7_code 11 = .ok (.iload_n 2, 1) := by decide +kernel
theorem d_Wa_first_12 : decode prog_7_method_7_code 12 = .ok (.invokevirtual 19, 3) := by decide +kernel
theorem d_Wa_first_15 : decode prog_7_method_7_code 15 = .ok (.ifCond .eq 24, 3) := by decide +kernel
theorem d_Wa_first_18 : decode prog_7_method_7_code 18 = .ok (.iload_n 1, 1) := by decide +kernel
theorem d_Wa_first_19 : decode prog_7_method_7_code 19 = .ok (.iconst (-1), 1) := by decide +kernel
theorem d_Wa_first_20 : decode prog_7_method_7_code 20 = .ok (.if_icmp .eq 17, 3) := by decide +kernel
theorem d_Wa_first_23 : decode prog_7_method_7_code 23 = .ok (.aload_n 0, 1) := by decide +kernel
theorem d_Wa_first_24 : decode prog_7_method_7_code 24 = .ok (.getfield 9, 3) := by decide +kernel
theorem d_Wa_first_27 : decode prog_7_method_7_code 27 = .ok (.iload_n 2, 1) := by decide +kernel
theorem d_Wa_first_28 : decode prog_7_method_7_code 28 = .ok (.iaload, 1) := by decide +kernel
theorem d_Wa_first_29 : decode prog_7_method_7_code 29 = .ok (.aload_n 0, 1) := by decide +kernel
theorem d_Wa_first_30 : decode prog_7_method_7_code 30 = .ok (.iload_n 1, 1) := by decide +kernel
theorem d_Wa_first_31 : decode prog_7_method_7_code 31 = .ok (.invokevirtual 22, 3) := by decide +kernel
theorem d_Wa_first_34 : decode prog_7_method_7_code 34 = .ok (.if_icmp .ge 5, 3) := by decide +kernel
theorem d_Wa_first_37 : decode prog_7_method_7_code 37 = .ok (.iload_n 2, 1) := by decide +kernel
theorem d_Wa_first_38 : decode prog_7_method_7_code 38 = .ok (.istore_n 1, 1) := by decide +kernel
theorem d_Wa_first_39 : decode prog_7_method_7_code 39 = .ok (.iinc 2 1, 3) := by decide +kernel
theorem d_Wa_first_42 : decode prog_7_method_7_code 42 = .ok (.goto (-38), 3) := by decide +kernel
theorem d_Wa_first_45 : decode prog_7_method_7_code 45 = .ok (.iload_n 1, 1) := by decide +kernel
theorem d_Wa_first_46 : decode prog_7_method_7_code 46 = .ok (.ireturn, 1) := by decide +kernel
theorem d_Wa_has_0 : decode prog_7_method_3_code 0 = .ok (.iload_n 1, 1) := by decide +kernel
theorem d_Wa_has_1 : decode prog_7_method_3_code 1 = .ok (.invokestatic 15, 3) := by decide +kernel
theorem d_Wa_has_4 : decode prog_7_method_3_code 4 = .ok (.ifCond .eq 16, 3) := by decide +kernel
theorem d_Wa_has_7 : decode prog_7_method_3_code 7 = .ok (.aload_n 0, 1) := by decide +kernel
theorem d_Wa_has_8 : decode prog_7_method_3_code 8 = .ok (.getfield 9, 3) := by decide +kernel
theorem d_Wa_has_11 : decode prog_7_method_3_code 11 = .ok (.iload_n 1, 1) := by decide +kernel
theorem d_Wa_has_12 : decode prog_7_method_3_code 12 = .ok (.iaload, 1) := by decide +kernel
theorem d_Wa_has_13 : decode prog_7_method_3_code 13 = .ok (.ifCond .eq 7, 3) := by decide +kernel
theorem d_Wa_has_16 : decode prog_7_method_3_code 16 = .ok (.iconst 1, 1) := by decide +kernel
theorem d_Wa_has_17 : decode prog_7_method_3_code 17 = .ok (.goto 4, 3) := by decide +kernel
theorem d_Wa_has_20 : decode prog_7_method_3_code 20 = .ok (.iconst 0, 1) := by decide +kernel
theorem d_Wa_has_21 : decode prog_7_method_3_code 21 = .ok (.ireturn, 1) := by decide +kernel
theorem d_Wa_isSession_0 : decode prog_7_method_2_code 0 = .ok (.iload_n 0, 1) := by decide +kernel
theorem d_Wa_isSession_1 : decode prog_7_method_2_code 1 = .ok (.ifCond .lt 13, 3) := by decide +kernel
theorem d_Wa_isSession_4 : decode prog_7_method_2_code 4 = .ok (.iload_n 0, 1) := by decide +kernel
theorem d_Wa_isSession_5 : decode prog_7_method_2_code 5 = .ok (.bipush 6, 2) := by decide +kernel
theorem d_Wa_isSession_7 : decode prog_7_method_2_code 7 = .ok (.if_icmp .ge 7, 3) := by decide +kernel
theorem d_Wa_isSession_10 : decode prog_7_method_2_code 10 = .ok (.iconst 1, 1) := by decide +kernel
theorem d_Wa_isSession_11 : decode prog_7_method_2_code 11 = .ok (.goto 4, 3) := by decide +kernel
theorem d_Wa_isSession_14 : decode prog_7_method_2_code 14 = .ok (.iconst 0, 1) := by decide +kernel
theorem d_Wa_isSession_15 : decode prog_7_method_2_code 15 = .ok (.ireturn, 1) := by decide +kernel
theorem d_Wa_endOf_0 : decode prog_7_method_4_code 0 = .ok (.iload_n 1, 1) := by decide +kernel
theorem d_Wa_endOf_1 : decode prog_7_method_4_code 1 = .ok (.invokestatic 15, 3) := by decide +kernel
theorem d_Wa_endOf_4 : decode prog_7_method_4_code 4 = .ok (.ifCond .eq 12, 3) := by decide +kernel
theorem d_Wa_endOf_7 : decode prog_7_method_4_code 7 = .ok (.aload_n 0, 1) := by decide +kernel
theorem d_Wa_endOf_8 : decode prog_7_method_4_code 8 = .ok (.getfield 9, 3) := by decide +kernel
theorem d_Wa_endOf_11 : decode prog_7_method_4_code 11 = .ok (.iload_n 1, 1) := by decide +kernel
theorem d_Wa_endOf_12 : decode prog_7_method_4_code 12 = .ok (.iaload, 1) := by decide +kernel
theorem d_Wa_endOf_13 : decode prog_7_method_4_code 13 = .ok (.goto 4, 3) := by decide +kernel
theorem d_Wa_endOf_16 : decode prog_7_method_4_code 16 = .ok (.iconst 0, 1) := by decide +kernel
theorem d_Wa_endOf_17 : decode prog_7_method_4_code 17 = .ok (.ireturn, 1) := by decide +kernel
theorem d_Wa_remove_0 : decode prog_7_method_6_code 0 = .ok (.iload_n 1, 1) := by decide +kernel
theorem d_Wa_remove_1 : decode prog_7_method_6_code 1 = .ok (.invokestatic 15, 3) := by decide +kernel
theorem d_Wa_remove_4 : decode prog_7_method_6_code 4 = .ok (.ifCond .eq 10, 3) := by decide +kernel
theorem d_Wa_remove_7 : decode prog_7_method_6_code 7 = .ok (.aload_n 0, 1) := by decide +kernel
theorem d_Wa_remove_8 : decode prog_7_method_6_code 8 = .ok (.getfield 9, 3) := by decide +kernel
theorem d_Wa_remove_11 : decode prog_7_method_6_code 11 = .ok (.iload_n 1, 1) := by decide +kernel
theorem d_Wa_remove_12 : decode prog_7_method_6_code 12 = .ok (.iconst 0, 1) := by decide +kernel
theorem d_Wa_remove_13 : decode prog_7_method_6_code 13 = .ok (.iastore, 1) := by decide +kernel
theorem d_Wa_remove_14 : decode prog_7_method_6_code 14 = .ok (.return_, 1) := by decide +kernel
theorem d_De_touch_0 : decode prog_1_method_8_code 0 = .ok (.aload_n 0, 1) := by decide +kernel
theorem d_De_touch_1 : decode prog_1_method_8_code 1 = .ok (.getfield 33, 3) := by decide +kernel
theorem d_De_touch_4 : decode prog_1_method_8_code 4 = .ok (.iload_n 1, 1) := by decide +kernel
theorem d_De_touch_5 : decode prog_1_method_8_code 5 = .ok (.invokevirtual 139, 3) := by decide +kernel
theorem d_De_touch_8 : decode prog_1_method_8_code 8 = .ok (.ireturn, 1) := by decide +kernel
theorem d_Pa_add_0 : decode prog_5_method_3_code 0 = .ok (.iload_n 1, 1) := by decide +kernel
theorem d_Pa_add_1 : decode prog_5_method_3_code 1 = .ok (.ifCond .lt 10, 3) := by decide +kernel
theorem d_Pa_add_4 : decode prog_5_method_3_code 4 = .ok (.iload_n 1, 1) := by decide +kernel
theorem d_Pa_add_5 : decode prog_5_method_3_code 5 = .ok (.sipush 2048, 3) := by decide +kernel
theorem d_Pa_add_8 : decode prog_5_method_3_code 8 = .ok (.if_icmp .lt 5, 3) := by decide +kernel
theorem d_Pa_add_11 : decode prog_5_method_3_code 11 = .ok (.iconst 0, 1) := by decide +kernel
theorem d_Pa_add_12 : decode prog_5_method_3_code 12 = .ok (.ireturn, 1) := by decide +kernel
theorem d_Pa_add_13 : decode prog_5_method_3_code 13 = .ok (.iload_n 1, 1) := by decide +kernel
theorem d_Pa_add_14 : decode prog_5_method_3_code 14 = .ok (.bipush 64, 2) := by decide +kernel
theorem d_Pa_add_16 : decode prog_5_method_3_code 16 = .ok (.idiv, 1) := by decide +kernel
theorem d_Pa_add_17 : decode prog_5_method_3_code 17 = .ok (.istore_n 2, 1) := by decide +kernel
theorem d_Pa_add_18 : decode prog_5_method_3_code 18 = .ok (.lconst 1, 1) := by decide +kernel
theorem d_Pa_add_19 : decode prog_5_method_3_code 19 = .ok (.iload_n 1, 1) := by decide +kernel
theorem d_Pa_add_20 : decode prog_5_method_3_code 20 = .ok (.bipush 64, 2) := by decide +kernel
theorem d_Pa_add_22 : decode prog_5_method_3_code 22 = .ok (.irem, 1) := by decide +kernel
theorem d_Pa_add_23 : decode prog_5_method_3_code 23 = .ok (.lshl, 1) := by decide +kernel
theorem d_Pa_add_24 : decode prog_5_method_3_code 24 = .ok (.lstore_n 3, 1) := by decide +kernel
theorem d_Pa_add_25 : decode prog_5_method_3_code 25 = .ok (.aload_n 0, 1) := by decide +kernel
theorem d_Pa_add_26 : decode prog_5_method_3_code 26 = .ok (.getfield 9, 3) := by decide +kernel
theorem d_Pa_add_29 : decode prog_5_method_3_code 29 = .ok (.iload_n 2, 1) := by decide +kernel
theorem d_Pa_add_30 : decode prog_5_method_3_code 30 = .ok (.laload, 1) := by decide +kernel
theorem d_Pa_add_31 : decode prog_5_method_3_code 31 = .ok (.lload_n 3, 1) := by decide +kernel
theorem d_Pa_add_32 : decode prog_5_method_3_code 32 = .ok (.land, 1) := by decide +kernel
theorem d_Pa_add_33 : decode prog_5_method_3_code 33 = .ok (.lconst 0, 1) := by decide +kernel
theorem d_Pa_add_34 : decode prog_5_method_3_code 34 = .ok (.lcmp, 1) := by decide +kernel
theorem d_Pa_add_35 : decode prog_5_method_3_code 35 = .ok (.ifCond .eq 5, 3) := by decide +kernel
theorem d_Pa_add_38 : decode prog_5_method_3_code 38 = .ok (.iconst 0, 1) := by decide +kernel
theorem d_Pa_add_39 : decode prog_5_method_3_code 39 = .ok (.ireturn, 1) := by decide +kernel
theorem d_Pa_add_40 : decode prog_5_method_3_code 40 = .ok (.aload_n 0, 1) := by decide +kernel
theorem d_Pa_add_41 : decode prog_5_method_3_code 41 = .ok (.getfield 9, 3) := by decide +kernel
theorem d_Pa_add_44 : decode prog_5_method_3_code 44 = .ok (.iload_n 2, 1) := by decide +kernel
theorem d_Pa_add_45 : decode prog_5_method_3_code 45 = .ok (.dup2, 1) := by decide +kernel
theorem d_Pa_add_46 : decode prog_5_method_3_code 46 = .ok (.laload, 1) := by decide +kernel
theorem d_Pa_add_47 : decode prog_5_method_3_code 47 = .ok (.lload_n 3, 1) := by decide +kernel
theorem d_Pa_add_48 : decode prog_5_method_3_code 48 = .ok (.lor, 1) := by decide +kernel
theorem d_Pa_add_49 : decode prog_5_method_3_code 49 = .ok (.lastore, 1) := by decide +kernel
theorem d_Pa_add_50 : decode prog_5_method_3_code 50 = .ok (.aload_n 0, 1) := by decide +kernel
theorem d_Pa_add_51 : decode prog_5_method_3_code 51 = .ok (.dup, 1) := by decide +kernel
theorem d_Pa_add_52 : decode prog_5_method_3_code 52 = .ok (.getfield 15, 3) := by decide +kernel
theorem d_Pa_add_55 : decode prog_5_method_3_code 55 = .ok (.iconst 1, 1) := by decide +kernel
theorem d_Pa_add_56 : decode prog_5_method_3_code 56 = .ok (.iadd, 1) := by decide +kernel
theorem d_Pa_add_57 : decode prog_5_method_3_code 57 = .ok (.putfield 15, 3) := by decide +kernel
theorem d_Pa_add_60 : decode prog_5_method_3_code 60 = .ok (.iconst 1, 1) := by decide +kernel
theorem d_Pa_add_61 : decode prog_5_method_3_code 61 = .ok (.ireturn, 1) := by decide +kernel
theorem d_De_mark_0 : decode prog_1_method_9_code 0 = .ok (.aload_n 0, 1) := by decide +kernel
theorem d_De_mark_1 : decode prog_1_method_9_code 1 = .ok (.getfield 33, 3) := by decide +kernel
theorem d_De_mark_4 : decode prog_1_method_9_code 4 = .ok (.invokevirtual 141, 3) := by decide +kernel
theorem d_De_mark_7 : decode prog_1_method_9_code 7 = .ok (.aload_n 0, 1) := by decide +kernel
theorem d_De_mark_8 : decode prog_1_method_9_code 8 = .ok (.getfield 90, 3) := by decide +kernel
theorem d_De_mark_11 : decode prog_1_method_9_code 11 = .ok (.ireturn, 1) := by decide +kernel
theorem d_Pa_clear_0 : decode prog_5_method_4_code 0 = .ok (.aload_n 0, 1) := by decide +kernel
theorem d_Pa_clear_1 : decode prog_5_method_4_code 1 = .ok (.getfield 9, 3) := by decide +kernel
theorem d_Pa_clear_4 : decode prog_5_method_4_code 4 = .ok (.lconst 0, 1) := by decide +kernel
theorem d_Pa_clear_5 : decode prog_5_method_4_code 5 = .ok (.invokestatic 19, 3) := by decide +kernel
theorem d_Pa_clear_8 : decode prog_5_method_4_code 8 = .ok (.aload_n 0, 1) := by decide +kernel
theorem d_Pa_clear_9 : decode prog_5_method_4_code 9 = .ok (.iconst 0, 1) := by decide +kernel
theorem d_Pa_clear_10 : decode prog_5_method_4_code 10 = .ok (.putfield 15, 3) := by decide +kernel
theorem d_Pa_clear_13 : decode prog_5_method_4_code 13 = .ok (.return_, 1) := by decide +kernel
theorem d_Ar_fillJ_0 : decode prog_18_method_101_code 0 = .ok (.iconst 0, 1) := by decide +kernel
theorem d_Ar_fillJ_1 : decode prog_18_method_101_code 1 = .ok (.istore_n 3, 1) := by decide +kernel
theorem d_Ar_fillJ_2 : decode prog_18_method_101_code 2 = .ok (.aload_n 0, 1) := by decide +kernel
theorem d_Ar_fillJ_3 : decode prog_18_method_101_code 3 = .ok (.arraylength, 1) := by decide +kernel
theorem d_Ar_fillJ_4 : decode prog_18_method_101_code 4 = .ok (.istore 4, 2) := by decide +kernel
theorem d_Ar_fillJ_6 : decode prog_18_method_101_code 6 = .ok (.iload_n 3, 1) := by decide +kernel
theorem d_Ar_fillJ_7 : decode prog_18_method_101_code 7 = .ok (.iload 4, 2) := by decide +kernel
theorem d_Ar_fillJ_9 : decode prog_18_method_101_code 9 = .ok (.if_icmp .ge 13, 3) := by decide +kernel
theorem d_Ar_fillJ_12 : decode prog_18_method_101_code 12 = .ok (.aload_n 0, 1) := by decide +kernel
theorem d_Ar_fillJ_13 : decode prog_18_method_101_code 13 = .ok (.iload_n 3, 1) := by decide +kernel
theorem d_Ar_fillJ_14 : decode prog_18_method_101_code 14 = .ok (.lload_n 1, 1) := by decide +kernel
theorem d_Ar_fillJ_15 : decode prog_18_method_101_code 15 = .ok (.lastore, 1) := by decide +kernel
theorem d_Ar_fillJ_16 : decode prog_18_method_101_code 16 = .ok (.iinc 3 1, 3) := by decide +kernel
theorem d_Ar_fillJ_19 : decode prog_18_method_101_code 19 = .ok (.goto (-13), 3) := by decide +kernel
theorem d_Ar_fillJ_22 : decode prog_18_method_101_code 22 = .ok (.return_, 1) := by decide +kernel
theorem d_De_open_0 : decode prog_1_method_11_code 0 = .ok (.aload_n 0, 1) := by decide +kernel
theorem d_De_open_1 : decode prog_1_method_11_code 1 = .ok (.invokevirtual 150, 3) := by decide +kernel
theorem d_De_open_4 : decode prog_1_method_11_code 4 = .ok (.ireturn, 1) := by decide +kernel
theorem d_De_recover_0 : decode prog_1_method_23_code 0 = .ok (.iconst 0, 1) := by decide +kernel
theorem d_De_recover_1 : decode prog_1_method_23_code 1 = .ok (.istore_n 1, 1) := by decide +kernel
theorem d_De_recover_2 : decode prog_1_method_23_code 2 = .ok (.aload_n 0, 1) := by decide +kernel
theorem d_De_recover_3 : decode prog_1_method_23_code 3 = .ok (.getfield 147, 3) := by decide +kernel
theorem d_De_recover_6 : decode prog_1_method_23_code 6 = .ok (.istore_n 2, 1) := by decide +kernel
theorem d_De_recover_7 : decode prog_1_method_23_code 7 = .ok (.iload_n 1, 1) := by decide +kernel
theorem d_De_recover_8 : decode prog_1_method_23_code 8 = .ok (.sipush 5334, 3) := by decide +kernel
theorem d_De_recover_11 : decode prog_1_method_23_code 11 = .ok (.if_icmp .ge 35, 3) := by decide +kernel
theorem d_De_recover_14 : decode prog_1_method_23_code 14 = .ok (.iload_n 2, 1) := by decide +kernel
theorem d_De_recover_15 : decode prog_1_method_23_code 15 = .ok (.aload_n 0, 1) := by decide +kernel
theorem d_De_recover_16 : decode prog_1_method_23_code 16 = .ok (.getfield 90, 3) := by decide +kernel
theorem d_De_recover_19 : decode prog_1_method_23_code 19 = .ok (.if_icmp .ge 27, 3) := by decide +kernel
theorem d_De_recover_22 : decode prog_1_method_23_code 22 = .ok (.aload_n 0, 1) := by decide +kernel
theorem d_De_recover_23 : decode prog_1_method_23_code 23 = .ok (.iload_n 2, 1) := by decide +kernel
theorem d_De_recover_24 : decode prog_1_method_23_code 24 = .ok (.invokevirtual 153, 3) := by decide +kernel
theorem d_De_recover_27 : decode prog_1_method_23_code 27 = .ok (.aload_n 0, 1) := by decide +kernel
theorem d_De_recover_28 : decode prog_1_method_23_code 28 = .ok (.getfield 107, 3) := by decide +kernel
theorem d_De_recover_31 : decode prog_1_method_23_code 31 = .ok (.if_icmp .gt 15, 3) := by decide +kernel
theorem d_De_recover_34 : decode prog_1_method_23_code 34 = .ok (.aload_n 0, 1) := by decide +kernel
theorem d_De_recover_35 : decode prog_1_method_23_code 35 = .ok (.iload_n 2, 1) := by decide +kernel
theorem d_De_recover_36 : decode prog_1_method_23_code 36 = .ok (.invokevirtual 153, 3) := by decide +kernel
theorem d_De_recover_39 : decode prog_1_method_23_code 39 = .ok (.istore_n 2, 1) := by decide +kernel
theorem d_De_recover_40 : decode prog_1_method_23_code 40 = .ok (.iinc 1 1, 3) := by decide +kernel
theorem d_De_recover_43 : decode prog_1_method_23_code 43 = .ok (.goto (-36), 3) := by decide +kernel
theorem d_De_recover_46 : decode prog_1_method_23_code 46 = .ok (.aload_n 0, 1) := by decide +kernel
theorem d_De_recover_47 : decode prog_1_method_23_code 47 = .ok (.iload_n 2, 1) := by decide +kernel
theorem d_De_recover_48 : decode prog_1_method_23_code 48 = .ok (.putfield 90, 3) := by decide +kernel
theorem d_De_recover_51 : decode prog_1_method_23_code 51 = .ok (.aload_n 0, 1) := by decide +kernel
theorem d_De_recover_52 : decode prog_1_method_23_code 52 = .ok (.iload_n 2, 1) := by decide +kernel
theorem d_De_recover_53 : decode prog_1_method_23_code 53 = .ok (.putfield 107, 3) := by decide +kernel
theorem d_De_recover_56 : decode prog_1_method_23_code 56 = .ok (.aload_n 0, 1) := by decide +kernel
theorem d_De_recover_57 : decode prog_1_method_23_code 57 = .ok (.iconst (-1), 1) := by decide +kernel
theorem d_De_recover_58 : decode prog_1_method_23_code 58 = .ok (.putfield 48, 3) := by decide +kernel
theorem d_De_recover_61 : decode prog_1_method_23_code 61 = .ok (.aload_n 0, 1) := by decide +kernel
theorem d_De_recover_62 : decode prog_1_method_23_code 62 = .ok (.getfield 19, 3) := by decide +kernel
theorem d_De_recover_65 : decode prog_1_method_23_code 65 = .ok (.invokevirtual 93, 3) := by decide +kernel
theorem d_De_recover_68 : decode prog_1_method_23_code 68 = .ok (.aload_n 0, 1) := by decide +kernel
theorem d_De_recover_69 : decode prog_1_method_23_code 69 = .ok (.getfield 26, 3) := by decide +kernel
theorem d_De_recover_72 : decode prog_1_method_23_code 72 = .ok (.invokevirtual 176, 3) := by decide +kernel
theorem d_De_recover_75 : decode prog_1_method_23_code 75 = .ok (.aload_n 0, 1) := by decide +kernel
theorem d_De_recover_76 : decode prog_1_method_23_code 76 = .ok (.getfield 33, 3) := by decide +kernel
theorem d_De_recover_79 : decode prog_1_method_23_code 79 = .ok (.invokevirtual 141, 3) := by decide +kernel
theorem d_De_recover_82 : decode prog_1_method_23_code 82 = .ok (.iload_n 1, 1) := by decide +kernel
theorem d_De_recover_83 : decode prog_1_method_23_code 83 = .ok (.ireturn, 1) := by decide +kernel
theorem d_De_endOfRecord_0 : decode prog_1_method_21_code 0 = .ok (.iload_n 1, 1) := by decide +kernel
theorem d_De_endOfRecord_1 : decode prog_1_method_21_code 1 = .ok (.iconst 3, 1) := by decide +kernel
theorem d_De_endOfRecord_2 : decode prog_1_method_21_code 2 = .ok (.iadd, 1) := by decide +kernel
theorem d_De_endOfRecord_3 : decode prog_1_method_21_code 3 = .ok (.aload_n 0, 1) := by decide +kernel
theorem d_De_endOfRecord_4 : decode prog_1_method_21_code 4 = .ok (.iload_n 1, 1) := by decide +kernel
theorem d_De_endOfRecord_5 : decode prog_1_method_21_code 5 = .ok (.invokevirtual 162, 3) := by decide +kernel
theorem d_De_endOfRecord_8 : decode prog_1_method_21_code 8 = .ok (.iadd, 1) := by decide +kernel
theorem d_De_endOfRecord_9 : decode prog_1_method_21_code 9 = .ok (.ireturn, 1) := by decide +kernel
theorem d_De_bytesOfRecord_0 : decode prog_1_method_20_code 0 = .ok (.aload_n 0, 1) := by decide +kernel
theorem d_De_bytesOfRecord_1 : decode prog_1_method_20_code 1 = .ok (.getfield 12, 3) := by decide +kernel
theorem d_De_bytesOfRecord_4 : decode prog_1_method_20_code 4 = .ok (.iload_n 1, 1) := by decide +kernel
theorem d_De_bytesOfRecord_5 : decode prog_1_method_20_code 5 = .ok (.iconst 1, 1) := by decide +kernel
theorem d_De_bytesOfRecord_6 : decode prog_1_method_20_code 6 = .ok (.iadd, 1) := by decide +kernel
theorem d_De_bytesOfRecord_7 : decode prog_1_method_20_code 7 = .ok (.invokevirtual 161, 3) := by decide +kernel
theorem d_De_bytesOfRecord_10 : decode prog_1_method_20_code 10 = .ok (.bipush 8, 2) := by decide +kernel
theorem d_De_bytesOfRecord_12 : decode prog_1_method_20_code 12 = .ok (.ishl, 1) := by decide +kernel
theorem d_De_bytesOfRecord_13 : decode prog_1_method_20_code 13 = .ok (.aload_n 0, 1) := by decide +kernel
theorem d_De_bytesOfRecord_14 : decode prog_1_method_20_code 14 = .ok (.getfield 12, 3) := by decide +kernel
theorem d_De_bytesOfRecord_17 : decode prog_1_method_20_code 17 = .ok (.iload_n 1, 1) := by decide +kernel
theorem d_De_bytesOfRecord_18 : decode prog_1_method_20_code 18 = .ok (.iconst 2, 1) := by decide +kernel
theorem d_De_bytesOfRecord_19 : decode prog_1_method_20_code 19 = .ok (.iadd, 1) := by decide +kernel
theorem d_De_bytesOfRecord_20 : decode prog_1_method_20_code 20 = .ok (.invokevirtual 161, 3) := by decide +kernel
theorem d_De_bytesOfRecord_23 : decode prog_1_method_20_code 23 = .ok (.ior, 1) := by decide +kernel
theorem d_De_bytesOfRecord_24 : decode prog_1_method_20_code 24 = .ok (.ireturn, 1) := by decide +kernel
theorem d_Ri_get_0 : decode prog_6_method_2_code 0 = .ok (.iload_n 1, 1) := by decide +kernel
theorem d_Ri_get_1 : decode prog_6_method_2_code 1 = .ok (.ifCond .ge 5, 3) := by decide +kernel
theorem d_Ri_get_4 : decode prog_6_method_2_code 4 = .ok (.iconst 0, 1) := by decide +kernel
theorem d_Ri_get_5 : decode prog_6_method_2_code 5 = .ok (.ireturn, 1) := by decide +kernel
theorem d_Ri_get_6 : decode prog_6_method_2_code 6 = .ok (.aload_n 0, 1) := by decide +kernel
theorem d_Ri_get_7 : decode prog_6_method_2_code 7 = .ok (.getfield 11, 3) := by decide +kernel
theorem d_Ri_get_10 : decode prog_6_method_2_code 10 = .ok (.iload_n 1, 1) := by decide +kernel
theorem d_Ri_get_11 : decode prog_6_method_2_code 11 = .ok (.invokestatic 17, 3) := by decide +kernel
theorem d_Ri_get_14 : decode prog_6_method_2_code 14 = .ok (.bipush 32, 2) := by decide +kernel
theorem d_Ri_get_16 : decode prog_6_method_2_code 16 = .ok (.irem, 1) := by decide +kernel
theorem d_Ri_get_17 : decode prog_6_method_2_code 17 = .ok (.aaload, 1) := by decide +kernel
theorem d_Ri_get_18 : decode prog_6_method_2_code 18 = .ok (.astore_n 2, 1) := by decide +kernel
theorem d_Ri_get_19 : decode prog_6_method_2_code 19 = .ok (.aload_n 2, 1) := by decide +kernel
theorem d_Ri_get_20 : decode prog_6_method_2_code 20 = .ok (.ifnonnull 7, 3) := by decide +kernel
theorem d_Ri_get_23 : decode prog_6_method_2_code 23 = .ok (.iconst 0, 1) := by decide +kernel
theorem d_Ri_get_24 : decode prog_6_method_2_code 24 = .ok (.goto 17, 3) := by decide +kernel
theorem d_Ri_get_27 : decode prog_6_method_2_code 27 = .ok (.aload_n 2, 1) := by decide +kernel
theorem d_Ri_get_28 : decode prog_6_method_2_code 28 = .ok (.getfield 21, 3) := by decide +kernel
theorem d_Ri_get_31 : decode prog_6_method_2_code 31 = .ok (.iload_n 1, 1) := by decide +kernel
theorem d_Ri_get_32 : decode prog_6_method_2_code 32 = .ok (.sipush 500, 3) := by decide +kernel
theorem d_Ri_get_35 : decode prog_6_method_2_code 35 = .ok (.irem, 1) := by decide +kernel
theorem d_Ri_get_36 : decode prog_6_method_2_code 36 = .ok (.baload, 1) := by decide +kernel
theorem d_Ri_get_37 : decode prog_6_method_2_code 37 = .ok (.sipush 255, 3) := by decide +kernel
theorem d_Ri_get_40 : decode prog_6_method_2_code 40 = .ok (.iand, 1) := by decide +kernel
theorem d_Ri_get_41 : decode prog_6_method_2_code 41 = .ok (.ireturn, 1) := by decide +kernel
theorem d_De_blockOf_0 : decode prog_1_method_17_code 0 = .ok (.iload_n 0, 1) := by decide +kernel
theorem d_De_blockOf_1 : decode prog_1_method_17_code 1 = .ok (.sipush 500, 3) := by decide +kernel
theorem d_De_blockOf_4 : decode prog_1_method_17_code 4 = .ok (.idiv, 1) := by decide +kernel
theorem d_De_blockOf_5 : decode prog_1_method_17_code 5 = .ok (.ireturn, 1) := by decide +kernel
theorem d_Ha_clear_0 : decode prog_4_method_6_code 0 = .ok (.aload_n 0, 1) := by decide +kernel
theorem d_Ha_clear_1 : decode prog_4_method_6_code 1 = .ok (.iconst 0, 1) := by decide +kernel
theorem d_Ha_clear_2 : decode prog_4_method_6_code 2 = .ok (.putfield 15, 3) := by decide +kernel
theorem d_Ha_clear_5 : decode prog_4_method_6_code 5 = .ok (.return_, 1) := by decide +kernel
theorem d_Wa_clear_0 : decode prog_7_method_9_code 0 = .ok (.aload_n 0, 1) := by decide +kernel
theorem d_Wa_clear_1 : decode prog_7_method_9_code 1 = .ok (.getfield 9, 3) := by decide +kernel
theorem d_Wa_clear_4 : decode prog_7_method_9_code 4 = .ok (.iconst 0, 1) := by decide +kernel
theorem d_Wa_clear_5 : decode prog_7_method_9_code 5 = .ok (.invokestatic 26, 3) := by decide +kernel
theorem d_Wa_clear_8 : decode prog_7_method_9_code 8 = .ok (.return_, 1) := by decide +kernel
theorem d_Ar_fillI_0 : decode prog_18_method_103_code 0 = .ok (.iconst 0, 1) := by decide +kernel
theorem d_Ar_fillI_1 : decode prog_18_method_103_code 1 = .ok (.istore_n 2, 1) := by decide +kernel
theorem d_Ar_fillI_2 : decode prog_18_method_103_code 2 = .ok (.aload_n 0, 1) := by decide +kernel
theorem d_Ar_fillI_3 : decode prog_18_method_103_code 3 = .ok (.arraylength, 1) := by decide +kernel
theorem d_Ar_fillI_4 : decode prog_18_method_103_code 4 = .ok (.istore_n 3, 1) := by decide +kernel
theorem d_Ar_fillI_5 : decode prog_18_method_103_code 5 = .ok (.iload_n 2, 1) := by decide +kernel
theorem d_Ar_fillI_6 : decode prog_18_method_103_code 6 = .ok (.iload_n 3, 1) := by decide +kernel
theorem d_Ar_fillI_7 : decode prog_18_method_103_code 7 = .ok (.if_icmp .ge 13, 3) := by decide +kernel
theorem d_Ar_fillI_10 : decode prog_18_method_103_code 10 = .ok (.aload_n 0, 1) := by decide +kernel
theorem d_Ar_fillI_11 : decode prog_18_method_103_code 11 = .ok (.iload_n 2, 1) := by decide +kernel
theorem d_Ar_fillI_12 : decode prog_18_method_103_code 12 = .ok (.iload_n 1, 1) := by decide +kernel
theorem d_Ar_fillI_13 : decode prog_18_method_103_code 13 = .ok (.iastore, 1) := by decide +kernel
theorem d_Ar_fillI_14 : decode prog_18_method_103_code 14 = .ok (.iinc 2 1, 3) := by decide +kernel
theorem d_Ar_fillI_17 : decode prog_18_method_103_code 17 = .ok (.goto (-12), 3) := by decide +kernel
theorem d_Ar_fillI_20 : decode prog_18_method_103_code 20 = .ok (.return_, 1) := by decide +kernel
theorem d_De_length_0 : decode prog_1_method_13_code 0 = .ok (.aload_n 0, 1) := by decide +kernel
theorem d_De_length_1 : decode prog_1_method_13_code 1 = .ok (.getfield 48, 3) := by decide +kernel
theorem d_De_length_4 : decode prog_1_method_13_code 4 = .ok (.iconst (-1), 1) := by decide +kernel
theorem d_De_length_5 : decode prog_1_method_13_code 5 = .ok (.if_icmp .ne 7, 3) := by decide +kernel
theorem d_De_length_8 : decode prog_1_method_13_code 8 = .ok (.iconst (-1), 1) := by decide +kernel
theorem d_De_length_9 : decode prog_1_method_13_code 9 = .ok (.goto 11, 3) := by decide +kernel
theorem d_De_length_12 : decode prog_1_method_13_code 12 = .ok (.aload_n 0, 1) := by decide +kernel
theorem d_De_length_13 : decode prog_1_method_13_code 13 = .ok (.aload_n 0, 1) := by decide +kernel
theorem d_De_length_14 : decode prog_1_method_13_code 14 = .ok (.getfield 48, 3) := by decide +kernel
theorem d_De_length_17 : decode prog_1_method_13_code 17 = .ok (.invokevirtual 162, 3) := by decide +kernel
theorem d_De_length_20 : decode prog_1_method_13_code 20 = .ok (.ireturn, 1) := by decide +kernel
theorem d_De_byteOf_0 : decode prog_1_method_14_code 0 = .ok (.aload_n 0, 1) := by decide +kernel
theorem d_De_byteOf_1 : decode prog_1_method_14_code 1 = .ok (.getfield 48, 3) := by decide +kernel
theorem d_De_byteOf_4 : decode prog_1_method_14_code 4 = .ok (.iconst (-1), 1) := by decide +kernel
theorem d_De_byteOf_5 : decode prog_1_method_14_code 5 = .ok (.if_icmp .eq 19, 3) := by decide +kernel
theorem d_De_byteOf_8 : decode prog_1_method_14_code 8 = .ok (.iload_n 1, 1) := by decide +kernel
theorem d_De_byteOf_9 : decode prog_1_method_14_code 9 = .ok (.ifCond .lt 15, 3) := by decide +kernel
theorem d_De_byteOf_12 : decode prog_1_method_14_code 12 = .ok (.iload_n 1, 1) := by decide +kernel
theorem d_De_byteOf_13 : decode prog_1_method_14_code 13 = .ok (.aload_n 0, 1) := by decide +kernel
theorem d_De_byteOf_14 : decode prog_1_method_14_code 14 = .ok (.aload_n 0, 1) := by decide +kernel
theorem d_De_byteOf_15 : decode prog_1_method_14_code 15 = .ok (.getfield 48, 3) := by decide +kernel
theorem d_De_byteOf_18 : decode prog_1_method_14_code 18 = .ok (.invokevirtual 162, 3) := by decide +kernel
theorem d_De_byteOf_21 : decode prog_1_method_14_code 21 = .ok (.if_icmp .lt 5, 3) := by decide +kernel
theorem d_De_byteOf_24 : decode prog_1_method_14_code 24 = .ok (.iconst (-1), 1) := by decide +kernel
theorem d_De_byteOf_25 : decode prog_1_method_14_code 25 = .ok (.ireturn, 1) := by decide +kernel
theorem d_De_byteOf_26 : decode prog_1_method_14_code 26 = .ok (.aload_n 0, 1) := by decide +kernel
theorem d_De_byteOf_27 : decode prog_1_method_14_code 27 = .ok (.getfield 12, 3) := by decide +kernel
theorem d_De_byteOf_30 : decode prog_1_method_14_code 30 = .ok (.aload_n 0, 1) := by decide +kernel
theorem d_De_byteOf_31 : decode prog_1_method_14_code 31 = .ok (.getfield 48, 3) := by decide +kernel
theorem d_De_byteOf_34 : decode prog_1_method_14_code 34 = .ok (.iconst 3, 1) := by decide +kernel
theorem d_De_byteOf_35 : decode prog_1_method_14_code 35 = .ok (.iadd, 1) := by decide +kernel
theorem d_De_byteOf_36 : decode prog_1_method_14_code 36 = .ok (.iload_n 1, 1) := by decide +kernel
theorem d_De_byteOf_37 : decode prog_1_method_14_code 37 = .ok (.iadd, 1) := by decide +kernel
theorem d_De_byteOf_38 : decode prog_1_method_14_code 38 = .ok (.invokevirtual 161, 3) := by decide +kernel
theorem d_De_byteOf_41 : decode prog_1_method_14_code 41 = .ok (.ireturn, 1) := by decide +kernel
theorem d_De_state_0 : decode prog_1_method_16_code 0 = .ok (.iload_n 1, 1) := by decide +kernel
theorem d_De_state_1 : decode prog_1_method_16_code 1 = .ok (.tableswitch 115 0 7 #[47, 52, 57, 62, 70, 78, 86, 94], 47) := by decide +kernel
theorem d_De_state_48 : decode prog_1_method_16_code 48 = .ok (.aload_n 0, 1) := by decide +kernel
theorem d_De_state_49 : decode prog_1_method_16_code 49 = .ok (.getfield 147, 3) := by decide +kernel
theorem d_De_state_52 : decode prog_1_method_16_code 52 = .ok (.ireturn, 1) := by decide +kernel
theorem d_De_state_53 : decode prog_1_method_16_code 53 = .ok (.aload_n 0, 1) := by decide +kernel
theorem d_De_state_54 : decode prog_1_method_16_code 54 = .ok (.getfield 90, 3) := by decide +kernel
theorem d_De_state_57 : decode prog_1_method_16_code 57 = .ok (.ireturn, 1) := by decide +kernel
theorem d_De_state_58 : decode prog_1_method_16_code 58 = .ok (.aload_n 0, 1) := by decide +kernel
theorem d_De_state_59 : decode prog_1_method_16_code 59 = .ok (.getfield 107, 3) := by decide +kernel
theorem d_De_state_62 : decode prog_1_method_16_code 62 = .ok (.ireturn, 1) := by decide +kernel
theorem d_De_state_63 : decode prog_1_method_16_code 63 = .ok (.aload_n 0, 1) := by decide +kernel
theorem d_De_state_64 : decode prog_1_method_16_code 64 = .ok (.getfield 40, 3) := by decide +kernel
theorem d_De_state_67 : decode prog_1_method_16_code 67 = .ok (.invokevirtual 170, 3) := by decide +kernel
theorem d_De_state_70 : decode prog_1_method_16_code 70 = .ok (.ireturn, 1) := by decide +kernel
theorem d_De_state_71 : decode prog_1_method_16_code 71 = .ok (.aload_n 0, 1) := by decide +kernel
theorem d_De_state_72 : decode prog_1_method_16_code 72 = .ok (.getfield 19, 3) := by decide +kernel
theorem d_De_state_75 : decode prog_1_method_16_code 75 = .ok (.invokevirtual 66, 3) := by decide +kernel
theorem d_De_state_78 : decode prog_1_method_16_code 78 = .ok (.ireturn, 1) := by decide +kernel
theorem d_De_state_79 : decode prog_1_method_16_code 79 = .ok (.aload_n 0, 1) := by decide +kernel
theorem d_De_state_80 : decode prog_1_method_16_code 80 = .ok (.getfield 26, 3) := by decide +kernel
theorem d_De_state_83 : decode prog_1_method_16_code 83 = .ok (.invokevirtual 173, 3) := by decide +kernel
theorem d_De_state_86 : decode prog_1_method_16_code 86 = .ok (.ireturn, 1) := by decide +kernel
theorem d_De_state_87 : decode prog_1_method_16_code 87 = .ok (.aload_n 0, 1) := by decide +kernel
theorem d_De_state_88 : decode prog_1_method_16_code 88 = .ok (.getfield 33, 3) := by decide +kernel
theorem d_De_state_91 : decode prog_1_method_16_code 91 = .ok (.invokevirtual 174, 3) := by decide +kernel
theorem d_De_state_94 : decode prog_1_method_16_code 94 = .ok (.ireturn, 1) := by decide +kernel
theorem d_De_state_95 : decode prog_1_method_16_code 95 = .ok (.aload_n 0, 1) := by decide +kernel
theorem d_De_state_96 : decode prog_1_method_16_code 96 = .ok (.getfield 48, 3) := by decide +kernel
theorem d_De_state_99 : decode prog_1_method_16_code 99 = .ok (.iconst (-1), 1) := by decide +kernel
theorem d_De_state_100 : decode prog_1_method_16_code 100 = .ok (.if_icmp .ne 7, 3) := by decide +kernel
theorem d_De_state_103 : decode prog_1_method_16_code 103 = .ok (.iconst (-1), 1) := by decide +kernel
theorem d_De_state_104 : decode prog_1_method_16_code 104 = .ok (.goto 11, 3) := by decide +kernel
theorem d_De_state_107 : decode prog_1_method_16_code 107 = .ok (.aload_n 0, 1) := by decide +kernel
theorem d_De_state_108 : decode prog_1_method_16_code 108 = .ok (.aload_n 0, 1) := by decide +kernel
theorem d_De_state_109 : decode prog_1_method_16_code 109 = .ok (.getfield 48, 3) := by decide +kernel
theorem d_De_state_112 : decode prog_1_method_16_code 112 = .ok (.invokevirtual 153, 3) := by decide +kernel
theorem d_De_state_115 : decode prog_1_method_16_code 115 = .ok (.ireturn, 1) := by decide +kernel
theorem d_De_state_116 : decode prog_1_method_16_code 116 = .ok (.iconst (-1), 1) := by decide +kernel
theorem d_De_state_117 : decode prog_1_method_16_code 117 = .ok (.ireturn, 1) := by decide +kernel
theorem d_Di_written_0 : decode prog_3_method_2_code 0 = .ok (.aload_n 0, 1) := by decide +kernel
theorem d_Di_written_1 : decode prog_3_method_2_code 1 = .ok (.getfield 15, 3) := by decide +kernel
theorem d_Di_written_4 : decode prog_3_method_2_code 4 = .ok (.ireturn, 1) := by decide +kernel
theorem d_Ha_count_0 : decode prog_4_method_2_code 0 = .ok (.aload_n 0, 1) := by decide +kernel
theorem d_Ha_count_1 : decode prog_4_method_2_code 1 = .ok (.getfield 15, 3) := by decide +kernel
theorem d_Ha_count_4 : decode prog_4_method_2_code 4 = .ok (.ireturn, 1) := by decide +kernel
theorem d_Wa_count_0 : decode prog_7_method_8_code 0 = .ok (.iconst 0, 1) := by decide +kernel
theorem d_Wa_count_1 : decode prog_7_method_8_code 1 = .ok (.istore_n 1, 1) := by decide +kernel
theorem d_Wa_count_2 : decode prog_7_method_8_code 2 = .ok (.iconst 0, 1) := by decide +kernel
theorem d_Wa_count_3 : decode prog_7_method_8_code 3 = .ok (.istore_n 2, 1) := by decide +kernel
theorem d_Wa_count_4 : decode prog_7_method_8_code 4 = .ok (.iload_n 2, 1) := by decide +kernel
theorem d_Wa_count_5 : decode prog_7_method_8_code 5 = .ok (.bipush 6, 2) := by decide +kernel
theorem d_Wa_count_7 : decode prog_7_method_8_code 7 = .ok (.if_icmp .ge 20, 3) := by decide +kernel
theorem d_Wa_count_10 : decode prog_7_method_8_code 10 = .ok (.aload_n 0, 1) := by decide +kernel
theorem d_Wa_count_11 : decode prog_7_method_8_code 11 = .ok (.iload_n 2, 1) := by decide +kernel
theorem d_Wa_count_12 : decode prog_7_method_8_code 12 = .ok (.invokevirtual 19, 3) := by decide +kernel
theorem d_Wa_count_15 : decode prog_7_method_8_code 15 = .ok (.ifCond .eq 6, 3) := by decide +kernel
theorem d_Wa_count_18 : decode prog_7_method_8_code 18 = .ok (.iinc 1 1, 3) := by decide +kernel
theorem d_Wa_count_21 : decode prog_7_method_8_code 21 = .ok (.iinc 2 1, 3) := by decide +kernel
theorem d_Wa_count_24 : decode prog_7_method_8_code 24 = .ok (.goto (-20), 3) := by decide +kernel
theorem d_Wa_count_27 : decode prog_7_method_8_code 27 = .ok (.iload_n 1, 1) := by decide +kernel
theorem d_Wa_count_28 : decode prog_7_method_8_code 28 = .ok (.ireturn, 1) := by decide +kernel
theorem d_Pa_count_0 : decode prog_5_method_2_code 0 = .ok (.aload_n 0, 1) := by decide +kernel
theorem d_Pa_count_1 : decode prog_5_method_2_code 1 = .ok (.getfield 15, 3) := by decide +kernel
theorem d_Pa_count_4 : decode prog_5_method_2_code 4 = .ok (.ireturn, 1) := by decide +kernel
theorem d_De_append_0 : decode prog_1_method_4_code 0 = .ok (.iload_n 1, 1) := by decide +kernel
theorem d_De_append_1 : decode prog_1_method_4_code 1 = .ok (.iconst 1, 1) := by decide +kernel
theorem d_De_append_2 : decode prog_1_method_4_code 2 = .ok (.if_icmp .lt 9, 3) := by decide +kernel
theorem d_De_append_5 : decode prog_1_method_4_code 5 = .ok (.iload_n 1, 1) := by decide +kernel
theorem d_De_append_6 : decode prog_1_method_4_code 6 = .ok (.bipush 15, 2) := by decide +kernel
theorem d_De_append_8 : decode prog_1_method_4_code 8 = .ok (.if_icmp .lt 13, 3) := by decide +kernel
theorem d_De_append_11 : decode prog_1_method_4_code 11 = .ok (.new 59, 3) := by decide +kernel
theorem d_De_append_14 : decode prog_1_method_4_code 14 = .ok (.dup, 1) := by decide +kernel
theorem d_De_append_15 : decode prog_1_method_4_code 15 = .ok (.ldc 61, 2) := by decide +kernel
theorem d_De_append_17 : decode prog_1_method_4_code 17 = .ok (.invokespecial 63, 3) := by decide +kernel
theorem d_De_append_20 : decode prog_1_method_4_code 20 = .ok (.athrow, 1) := by decide +kernel
theorem d_De_append_21 : decode prog_1_method_4_code 21 = .ok (.aload_n 0, 1) := by decide +kernel
theorem d_De_append_22 : decode prog_1_method_4_code 22 = .ok (.getfield 19, 3) := by decide +kernel
theorem d_De_append_25 : decode prog_1_method_4_code 25 = .ok (.invokevirtual 66, 3) := by decide +kernel
theorem d_De_append_28 : decode prog_1_method_4_code 28 = .ok (.istore_n 2, 1) := by decide +kernel
theorem d_De_append_29 : decode prog_1_method_4_code 29 = .ok (.aload_n 0, 1) := by decide +kernel
theorem d_De_append_30 : decode prog_1_method_4_code 30 = .ok (.iload_n 2, 1) := by decide +kernel
theorem d_De_append_31 : decode prog_1_method_4_code 31 = .ok (.invokevirtual 70, 3) := by decide +kernel
theorem d_De_append_34 : decode prog_1_method_4_code 34 = .ok (.ifCond .eq 13, 3) := by decide +kernel
theorem d_De_append_37 : decode prog_1_method_4_code 37 = .ok (.new 73, 3) := by decide +kernel
theorem d_De_append_40 : decode prog_1_method_4_code 40 = .ok (.dup, 1) := by decide +kernel
theorem d_De_append_41 : decode prog_1_method_4_code 41 = .ok (.ldc 75, 2) := by decide +kernel
theorem d_De_append_43 : decode prog_1_method_4_code 43 = .ok (.invokespecial 77, 3) := by decide +kernel
theorem d_De_append_46 : decode prog_1_method_4_code 46 = .ok (.athrow, 1) := by decide +kernel
theorem d_De_append_47 : decode prog_1_method_4_code 47 = .ok (.aload_n 0, 1) := by decide +kernel
theorem d_De_append_48 : decode prog_1_method_4_code 48 = .ok (.iload_n 1, 1) := by decide +kernel
theorem d_De_append_49 : decode prog_1_method_4_code 49 = .ok (.iload_n 2, 1) := by decide +kernel
theorem d_De_append_50 : decode prog_1_method_4_code 50 = .ok (.invokevirtual 78, 3) := by decide +kernel
theorem d_De_append_53 : decode prog_1_method_4_code 53 = .ok (.istore_n 3, 1) := by decide +kernel
theorem d_De_append_54 : decode prog_1_method_4_code 54 = .ok (.iconst 0, 1) := by decide +kernel
theorem d_De_append_55 : decode prog_1_method_4_code 55 = .ok (.istore 4, 2) := by decide +kernel
theorem d_De_append_57 : decode prog_1_method_4_code 57 = .ok (.iload 4, 2) := by decide +kernel
theorem d_De_append_59 : decode prog_1_method_4_code 59 = .ok (.iload_n 2, 1) := by decide +kernel
theorem d_De_append_60 : decode prog_1_method_4_code 60 = .ok (.if_icmp .ge 29, 3) := by decide +kernel
theorem d_De_append_63 : decode prog_1_method_4_code 63 = .ok (.aload_n 0, 1) := by decide +kernel
theorem d_De_append_64 : decode prog_1_method_4_code 64 = .ok (.getfield 12, 3) := by decide +kernel
theorem d_De_append_67 : decode prog_1_method_4_code 67 = .ok (.iload_n 3, 1) := by decide +kernel
theorem d_De_append_68 : decode prog_1_method_4_code 68 = .ok (.iload 4, 2) := by decide +kernel
theorem d_De_append_70 : decode prog_1_method_4_code 70 = .ok (.iadd, 1) := by decide +kernel
theorem d_De_append_71 : decode prog_1_method_4_code 71 = .ok (.aload_n 0, 1) := by decide +kernel
theorem d_De_append_72 : decode prog_1_method_4_code 72 = .ok (.getfield 19, 3) := by decide +kernel
theorem d_De_append_75 : decode prog_1_method_4_code 75 = .ok (.iload 4, 2) := by decide +kernel
theorem d_De_append_77 : decode prog_1_method_4_code 77 = .ok (.invokevirtual 82, 3) := by decide +kernel
theorem d_De_append_80 : decode prog_1_method_4_code 80 = .ok (.invokevirtual 86, 3) := by decide +kernel
theorem d_De_append_83 : decode prog_1_method_4_code 83 = .ok (.iinc 4 1, 3) := by decide +kernel
theorem d_De_append_86 : decode prog_1_method_4_code 86 = .ok (.goto (-29), 3) := by decide +kernel
theorem d_De_append_89 : decode prog_1_method_4_code 89 = .ok (.aload_n 0, 1) := by decide +kernel
theorem d_De_append_90 : decode prog_1_method_4_code 90 = .ok (.iload_n 3, 1) := by decide +kernel
theorem d_De_append_91 : decode prog_1_method_4_code 91 = .ok (.iload_n 2, 1) := by decide +kernel
theorem d_De_append_92 : decode prog_1_method_4_code 92 = .ok (.iadd, 1) := by decide +kernel
theorem d_De_append_93 : decode prog_1_method_4_code 93 = .ok (.putfield 90, 3) := by decide +kernel
theorem d_De_append_96 : decode prog_1_method_4_code 96 = .ok (.aload_n 0, 1) := by decide +kernel
theorem d_De_append_97 : decode prog_1_method_4_code 97 = .ok (.getfield 19, 3) := by decide +kernel
theorem d_De_append_100 : decode prog_1_method_4_code 100 = .ok (.invokevirtual 93, 3) := by decide +kernel
theorem d_De_append_103 : decode prog_1_method_4_code 103 = .ok (.aload_n 0, 1) := by decide +kernel
theorem d_De_append_104 : decode prog_1_method_4_code 104 = .ok (.getfield 90, 3) := by decide +kernel
theorem d_De_append_107 : decode prog_1_method_4_code 107 = .ok (.ireturn, 1) := by decide +kernel
theorem d_De_isFullFor_0 : decode prog_1_method_18_code 0 = .ok (.aload_n 0, 1) := by decide +kernel
theorem d_De_isFullFor_1 : decode prog_1_method_18_code 1 = .ok (.getfield 90, 3) := by decide +kernel
theorem d_De_isFullFor_4 : decode prog_1_method_18_code 4 = .ok (.iconst 3, 1) := by decide +kernel
theorem d_De_isFullFor_5 : decode prog_1_method_18_code 5 = .ok (.iadd, 1) := by decide +kernel
theorem d_De_isFullFor_6 : decode prog_1_method_18_code 6 = .ok (.iload_n 1, 1) := by decide +kernel
theorem d_De_isFullFor_7 : decode prog_1_method_18_code 7 = .ok (.iadd, 1) := by decide +kernel
theorem d_De_isFullFor_8 : decode prog_1_method_18_code 8 = .ok (.istore_n 2, 1) := by decide +kernel
theorem d_De_isFullFor_9 : decode prog_1_method_18_code 9 = .ok (.iload_n 2, 1) := by decide +kernel
theorem d_De_isFullFor_10 : decode prog_1_method_18_code 10 = .ok (.ldc 175, 2) := by decide +kernel
theorem d_De_isFullFor_12 : decode prog_1_method_18_code 12 = .ok (.if_icmp .gt 24, 3) := by decide +kernel
theorem d_De_isFullFor_15 : decode prog_1_method_18_code 15 = .ok (.iload_n 2, 1) := by decide +kernel
theorem d_De_isFullFor_16 : decode prog_1_method_18_code 16 = .ok (.iconst 1, 1) := by decide +kernel
theorem d_De_isFullFor_17 : decode prog_1_method_18_code 17 = .ok (.isub, 1) := by decide +kernel
theorem d_De_isFullFor_18 : decode prog_1_method_18_code 18 = .ok (.invokestatic 110, 3) := by decide +kernel
theorem d_De_isFullFor_21 : decode prog_1_method_18_code 21 = .ok (.aload_n 0, 1) := by decide +kernel
theorem d_De_isFullFor_22 : decode prog_1_method_18_code 22 = .ok (.getfield 147, 3) := by decide +kernel
theorem d_De_isFullFor_25 : decode prog_1_method_18_code 25 = .ok (.invokestatic 110, 3) := by decide +kernel
theorem d_De_isFullFor_28 : decode prog_1_method_18_code 28 = .ok (.isub, 1) := by decide +kernel
theorem d_De_isFullFor_29 : decode prog_1_method_18_code 29 = .ok (.aload_n 0, 1) := by decide +kernel
theorem d_De_isFullFor_30 : decode prog_1_method_18_code 30 = .ok (.getfield 44, 3) := by decide +kernel
theorem d_De_isFullFor_33 : decode prog_1_method_18_code 33 = .ok (.if_icmp .lt 7, 3) := by decide +kernel
theorem d_De_isFullFor_36 : decode prog_1_method_18_code 36 = .ok (.iconst 1, 1) := by decide +kernel
theorem d_De_isFullFor_37 : decode prog_1_method_18_code 37 = .ok (.goto 4, 3) := by decide +kernel
theorem d_De_isFullFor_40 : decode prog_1_method_18_code 40 = .ok (.iconst 0, 1) := by decide +kernel
theorem d_De_isFullFor_41 : decode prog_1_method_18_code 41 = .ok (.ireturn, 1) := by decide +kernel
theorem d_De_writeHead_0 : decode prog_1_method_19_code 0 = .ok (.aload_n 0, 1) := by decide +kernel
theorem d_De_writeHead_1 : decode prog_1_method_19_code 1 = .ok (.getfield 12, 3) := by decide +kernel
theorem d_De_writeHead_4 : decode prog_1_method_19_code 4 = .ok (.aload_n 0, 1) := by decide +kernel
theorem d_De_writeHead_5 : decode prog_1_method_19_code 5 = .ok (.getfield 90, 3) := by decide +kernel
theorem d_De_writeHead_8 : decode prog_1_method_19_code 8 = .ok (.iload_n 1, 1) := by decide +kernel
theorem d_De_writeHead_9 : decode prog_1_method_19_code 9 = .ok (.invokevirtual 86, 3) := by decide +kernel
theorem d_De_writeHead_12 : decode prog_1_method_19_code 12 = .ok (.aload_n 0, 1) := by decide +kernel
theorem d_De_writeHead_13 : decode prog_1_method_19_code 13 = .ok (.getfield 12, 3) := by decide +kernel
theorem d_De_writeHead_16 : decode prog_1_method_19_code 16 = .ok (.aload_n 0, 1) := by decide +kernel
theorem d_De_writeHead_17 : decode prog_1_method_19_code 17 = .ok (.getfield 90, 3) := by decide +kernel
theorem d_De_writeHead_20 : decode prog_1_method_19_code 20 = .ok (.iconst 1, 1) := by decide +kernel
theorem d_De_writeHead_21 : decode prog_1_method_19_code 21 = .ok (.iadd, 1) := by decide +kernel
theorem d_De_writeHead_22 : decode prog_1_method_19_code 22 = .ok (.iload_n 2, 1) := by decide +kernel
theorem d_De_writeHead_23 : decode prog_1_method_19_code 23 = .ok (.bipush 8, 2) := by decide +kernel
theorem d_De_writeHead_25 : decode prog_1_method_19_code 25 = .ok (.ishr, 1) := by decide +kernel
theorem d_De_writeHead_26 : decode prog_1_method_19_code 26 = .ok (.invokevirtual 86, 3) := by decide +kernel
theorem d_De_writeHead_29 : decode prog_1_method_19_code 29 = .ok (.aload_n 0, 1) := by decide +kernel
theorem d_De_writeHead_30 : decode prog_1_method_19_code 30 = .ok (.getfield 12, 3) := by decide +kernel
theorem d_De_writeHead_33 : decode prog_1_method_19_code 33 = .ok (.aload_n 0, 1) := by decide +kernel
theorem d_De_writeHead_34 : decode prog_1_method_19_code 34 = .ok (.getfield 90, 3) := by decide +kernel
theorem d_De_writeHead_37 : decode prog_1_method_19_code 37 = .ok (.iconst 2, 1) := by decide +kernel
theorem d_De_writeHead_38 : decode prog_1_method_19_code 38 = .ok (.iadd, 1) := by decide +kernel
theorem d_De_writeHead_39 : decode prog_1_method_19_code 39 = .ok (.iload_n 2, 1) := by decide +kernel
theorem d_De_writeHead_40 : decode prog_1_method_19_code 40 = .ok (.invokevirtual 86, 3) := by decide +kernel
theorem d_De_writeHead_43 : decode prog_1_method_19_code 43 = .ok (.aload_n 0, 1) := by decide +kernel
theorem d_De_writeHead_44 : decode prog_1_method_19_code 44 = .ok (.getfield 90, 3) := by decide +kernel
theorem d_De_writeHead_47 : decode prog_1_method_19_code 47 = .ok (.iconst 3, 1) := by decide +kernel
theorem d_De_writeHead_48 : decode prog_1_method_19_code 48 = .ok (.iadd, 1) := by decide +kernel
theorem d_De_writeHead_49 : decode prog_1_method_19_code 49 = .ok (.ireturn, 1) := by decide +kernel
theorem d_Ri_set_0 : decode prog_6_method_3_code 0 = .ok (.iload_n 1, 1) := by decide +kernel
theorem d_Ri_set_1 : decode prog_6_method_3_code 1 = .ok (.ifCond .ge 4, 3) := by decide +kernel
theorem d_Ri_set_4 : decode prog_6_method_3_code 4 = .ok (.return_, 1) := by decide +kernel
theorem d_Ri_set_5 : decode prog_6_method_3_code 5 = .ok (.iload_n 1, 1) := by decide +kernel
theorem d_Ri_set_6 : decode prog_6_method_3_code 6 = .ok (.invokestatic 17, 3) := by decide +kernel
theorem d_Ri_set_9 : decode prog_6_method_3_code 9 = .ok (.bipush 32, 2) := by decide +kernel
theorem d_Ri_set_11 : decode prog_6_method_3_code 11 = .ok (.irem, 1) := by decide +kernel
theorem d_Ri_set_12 : decode prog_6_method_3_code 12 = .ok (.istore_n 3, 1) := by decide +kernel
theorem d_Ri_set_13 : decode prog_6_method_3_code 13 = .ok (.aload_n 0, 1) := by decide +kernel
theorem d_Ri_set_14 : decode prog_6_method_3_code 14 = .ok (.getfield 11, 3) := by decide +kernel
theorem d_Ri_set_17 : decode prog_6_method_3_code 17 = .ok (.iload_n 3, 1) := by decide +kernel
theorem d_Ri_set_18 : decode prog_6_method_3_code 18 = .ok (.aaload, 1) := by decide +kernel
theorem d_Ri_set_19 : decode prog_6_method_3_code 19 = .ok (.astore 4, 2) := by decide +kernel
theorem d_Ri_set_21 : decode prog_6_method_3_code 21 = .ok (.aload 4, 2) := by decide +kernel
theorem d_Ri_set_23 : decode prog_6_method_3_code 23 = .ok (.ifnonnull 20, 3) := by decide +kernel
theorem d_Ri_set_26 : decode prog_6_method_3_code 26 = .ok (.new 9, 3) := by decide +kernel
theorem d_Ri_set_29 : decode prog_6_method_3_code 29 = .ok (.dup, 1) := by decide +kernel
theorem d_Ri_set_30 : decode prog_6_method_3_code 30 = .ok (.invokespecial 25, 3) := by decide +kernel
theorem d_Ri_set_33 : decode prog_6_method_3_code 33 = .ok (.astore 4, 2) := by decide +kernel
theorem d_Ri_set_35 : decode prog_6_method_3_code 35 = .ok (.aload_n 0, 1) := by decide +kernel
theorem d_Ri_set_36 : decode prog_6_method_3_code 36 = .ok (.getfield 11, 3) := by decide +kernel
theorem d_Ri_set_39 : decode prog_6_method_3_code 39 = .ok (.iload_n 3, 1) := by decide +kernel
theorem d_Ri_set_40 : decode prog_6_method_3_code 40 = .ok (.aload 4, 2) := by decide +kernel
theorem d_Ri_set_42 : decode prog_6_method_3_code 42 = .ok (.aastore, 1) := by decide +kernel
theorem d_Ri_set_43 : decode prog_6_method_3_code 43 = .ok (.aload 4, 2) := by decide +kernel
theorem d_Ri_set_45 : decode prog_6_method_3_code 45 = .ok (.getfield 21, 3) := by decide +kernel
theorem d_Ri_set_48 : decode prog_6_method_3_code 48 = .ok (.iload_n 1, 1) := by decide +kernel
theorem d_Ri_set_49 : decode prog_6_method_3_code 49 = .ok (.sipush 500, 3) := by decide +kernel
theorem d_Ri_set_52 : decode prog_6_method_3_code 52 = .ok (.irem, 1) := by decide +kernel
theorem d_Ri_set_53 : decode prog_6_method_3_code 53 = .ok (.iload_n 2, 1) := by decide +kernel
theorem d_Ri_set_54 : decode prog_6_method_3_code 54 = .ok (.i2b, 1) := by decide +kernel
theorem d_Ri_set_55 : decode prog_6_method_3_code 55 = .ok (.bastore, 1) := by decide +kernel
theorem d_Ri_set_56 : decode prog_6_method_3_code 56 = .ok (.return_, 1) := by decide +kernel
theorem d_Bl_init_0 : decode prog_2_method_1_code 0 = .ok (.aload_n 0, 1) := by decide +kernel
theorem d_Bl_init_1 : decode prog_2_method_1_code 1 = .ok (.invokespecial 3, 3) := by decide +kernel
theorem d_Bl_init_4 : decode prog_2_method_1_code 4 = .ok (.aload_n 0, 1) := by decide +kernel
theorem d_Bl_init_5 : decode prog_2_method_1_code 5 = .ok (.sipush 500, 3) := by decide +kernel
theorem d_Bl_init_8 : decode prog_2_method_1_code 8 = .ok (.newarray .byte, 2) := by decide +kernel
theorem d_Bl_init_10 : decode prog_2_method_1_code 10 = .ok (.putfield 9, 3) := by decide +kernel
theorem d_Bl_init_13 : decode prog_2_method_1_code 13 = .ok (.return_, 1) := by decide +kernel
theorem d_Ha_get_0 : decode prog_4_method_5_code 0 = .ok (.iload_n 1, 1) := by decide +kernel
theorem d_Ha_get_1 : decode prog_4_method_5_code 1 = .ok (.ifCond .lt 31, 3) := by decide +kernel
theorem d_Ha_get_4 : decode prog_4_method_5_code 4 = .ok (.iload_n 1, 1) := by decide +kernel
theorem d_Ha_get_5 : decode prog_4_method_5_code 5 = .ok (.aload_n 0, 1) := by decide +kernel
theorem d_Ha_get_6 : decode prog_4_method_5_code 6 = .ok (.getfield 15, 3) := by decide +kernel
theorem d_Ha_get_9 : decode prog_4_method_5_code 9 = .ok (.if_icmp .ge 23, 3) := by decide +kernel
theorem d_Ha_get_12 : decode prog_4_method_5_code 12 = .ok (.iload_n 1, 1) := by decide +kernel
theorem d_Ha_get_13 : decode prog_4_method_5_code 13 = .ok (.sipush 600, 3) := by decide +kernel
theorem d_Ha_get_16 : decode prog_4_method_5_code 16 = .ok (.if_icmp .ge 16, 3) := by decide +kernel
theorem d_Ha_get_19 : decode prog_4_method_5_code 19 = .ok (.aload_n 0, 1) := by decide +kernel
theorem d_Ha_get_20 : decode prog_4_method_5_code 20 = .ok (.getfield 9, 3) := by decide +kernel
theorem d_Ha_get_23 : decode prog_4_method_5_code 23 = .ok (.iload_n 1, 1) := by decide +kernel
theorem d_Ha_get_24 : decode prog_4_method_5_code 24 = .ok (.baload, 1) := by decide +kernel
theorem d_Ha_get_25 : decode prog_4_method_5_code 25 = .ok (.sipush 255, 3) := by decide +kernel
theorem d_Ha_get_28 : decode prog_4_method_5_code 28 = .ok (.iand, 1) := by decide +kernel
theorem d_Ha_get_29 : decode prog_4_method_5_code 29 = .ok (.goto 4, 3) := by decide +kernel
theorem d_Ha_get_32 : decode prog_4_method_5_code 32 = .ok (.iconst 0, 1) := by decide +kernel
theorem d_Ha_get_33 : decode prog_4_method_5_code 33 = .ok (.ireturn, 1) := by decide +kernel
theorem d_De_commit_0 : decode prog_1_method_5_code 0 = .ok (.iload_n 1, 1) := by decide +kernel
theorem d_De_commit_1 : decode prog_1_method_5_code 1 = .ok (.ifCond .lt 9, 3) := by decide +kernel
theorem d_De_commit_4 : decode prog_1_method_5_code 4 = .ok (.iload_n 1, 1) := by decide +kernel
theorem d_De_commit_5 : decode prog_1_method_5_code 5 = .ok (.bipush 6, 2) := by decide +kernel
theorem d_De_commit_7 : decode prog_1_method_5_code 7 = .ok (.if_icmp .lt 13, 3) := by decide +kernel
theorem d_De_commit_10 : decode prog_1_method_5_code 10 = .ok (.new 59, 3) := by decide +kernel
theorem d_De_commit_13 : decode prog_1_method_5_code 13 = .ok (.dup, 1) := by decide +kernel
theorem d_De_commit_14 : decode prog_1_method_5_code 14 = .ok (.ldc 96, 2) := by decide +kernel
theorem d_De_commit_16 : decode prog_1_method_5_code 16 = .ok (.invokespecial 63, 3) := by decide +kernel
theorem d_De_commit_19 : decode prog_1_method_5_code 19 = .ok (.athrow, 1) := by decide +kernel
theorem d_De_commit_20 : decode prog_1_method_5_code 20 = .ok (.aload_n 0, 1) := by decide +kernel
theorem d_De_commit_21 : decode prog_1_method_5_code 21 = .ok (.getfield 26, 3) := by decide +kernel
theorem d_De_commit_24 : decode prog_1_method_5_code 24 = .ok (.iload_n 1, 1) := by decide +kernel
theorem d_De_commit_25 : decode prog_1_method_5_code 25 = .ok (.invokevirtual 98, 3) := by decide +kernel
theorem d_De_commit_28 : decode prog_1_method_5_code 28 = .ok (.ifCond .eq 13, 3) := by decide +kernel
theorem d_De_commit_31 : decode prog_1_method_5_code 31 = .ok (.new 73, 3) := by decide +kernel
theorem d_De_commit_34 : decode prog_1_method_5_code 34 = .ok (.dup, 1) := by decide +kernel
theorem d_De_commit_35 : decode prog_1_method_5_code 35 = .ok (.ldc 101, 2) := by decide +kernel
theorem d_De_commit_37 : decode prog_1_method_5_code 37 = .ok (.invokespecial 77, 3) := by decide +kernel
theorem d_De_commit_40 : decode prog_1_method_5_code 40 = .ok (.athrow, 1) := by decide +kernel
theorem d_De_commit_41 : decode prog_1_method_5_code 41 = .ok (.aload_n 0, 1) := by decide +kernel
theorem d_De_commit_42 : decode prog_1_method_5_code 42 = .ok (.iconst 1, 1) := by decide +kernel
theorem d_De_commit_43 : decode prog_1_method_5_code 43 = .ok (.invokevirtual 70, 3) := by decide +kernel
theorem d_De_commit_46 : decode prog_1_method_5_code 46 = .ok (.ifCond .eq 13, 3) := by decide +kernel
theorem d_De_commit_49 : decode prog_1_method_5_code 49 = .ok (.new 73, 3) := by decide +kernel
theorem d_De_commit_52 : decode prog_1_method_5_code 52 = .ok (.dup, 1) := by decide +kernel
theorem d_De_commit_53 : decode prog_1_method_5_code 53 = .ok (.ldc 75, 2) := by decide +kernel
theorem d_De_commit_55 : decode prog_1_method_5_code 55 = .ok (.invokespecial 77, 3) := by decide +kernel
theorem d_De_commit_58 : decode prog_1_method_5_code 58 = .ok (.athrow, 1) := by decide +kernel
theorem d_De_commit_59 : decode prog_1_method_5_code 59 = .ok (.aload_n 0, 1) := by decide +kernel
theorem d_De_commit_60 : decode prog_1_method_5_code 60 = .ok (.bipush 15, 2) := by decide +kernel
theorem d_De_commit_62 : decode prog_1_method_5_code 62 = .ok (.iconst 1, 1) := by decide +kernel
theorem d_De_commit_63 : decode prog_1_method_5_code 63 = .ok (.invokevirtual 78, 3) := by decide +kernel
theorem d_De_commit_66 : decode prog_1_method_5_code 66 = .ok (.istore_n 2, 1) := by decide +kernel
theorem d_De_commit_67 : decode prog_1_method_5_code 67 = .ok (.aload_n 0, 1) := by decide +kernel
theorem d_De_commit_68 : decode prog_1_method_5_code 68 = .ok (.getfield 12, 3) := by decide +kernel
theorem d_De_commit_71 : decode prog_1_method_5_code 71 = .ok (.iload_n 2, 1) := by decide +kernel
theorem d_De_commit_72 : decode prog_1_method_5_code 72 = .ok (.iload_n 1, 1) := by decide +kernel
theorem d_De_commit_73 : decode prog_1_method_5_code 73 = .ok (.invokevirtual 86, 3) := by decide +kernel
theorem d_De_commit_76 : decode prog_1_method_5_code 76 = .ok (.aload_n 0, 1) := by decide +kernel
theorem d_De_commit_77 : decode prog_1_method_5_code 77 = .ok (.iload_n 2, 1) := by decide +kernel
theorem d_De_commit_78 : decode prog_1_method_5_code 78 = .ok (.iconst 1, 1) := by decide +kernel
theorem d_De_commit_79 : decode prog_1_method_5_code 79 = .ok (.iadd, 1) := by decide +kernel
theorem d_De_commit_80 : decode prog_1_method_5_code 80 = .ok (.putfield 90, 3) := by decide +kernel
theorem d_De_commit_83 : decode prog_1_method_5_code 83 = .ok (.aload_n 0, 1) := by decide +kernel
theorem d_De_commit_84 : decode prog_1_method_5_code 84 = .ok (.getfield 26, 3) := by decide +kernel
theorem d_De_commit_87 : decode prog_1_method_5_code 87 = .ok (.iload_n 1, 1) := by decide +kernel
theorem d_De_commit_88 : decode prog_1_method_5_code 88 = .ok (.aload_n 0, 1) := by decide +kernel
theorem d_De_commit_89 : decode prog_1_method_5_code 89 = .ok (.getfield 90, 3) := by decide +kernel
theorem d_De_commit_92 : decode prog_1_method_5_code 92 = .ok (.invokevirtual 103, 3) := by decide +kernel
theorem d_De_commit_95 : decode prog_1_method_5_code 95 = .ok (.aload_n 0, 1) := by decide +kernel
theorem d_De_commit_96 : decode prog_1_method_5_code 96 = .ok (.getfield 90, 3) := by decide +kernel
theorem d_De_commit_99 : decode prog_1_method_5_code 99 = .ok (.ireturn, 1) := by decide +kernel
theorem d_Wa_add_0 : decode prog_7_method_5_code 0 = .ok (.iload_n 1, 1) := by decide +kernel
theorem d_Wa_add_1 : decode prog_7_method_5_code 1 = .ok (.invokestatic 15, 3) := by decide +kernel
theorem d_Wa_add_4 : decode prog_7_method_5_code 4 = .ok (.ifCond .eq 10, 3) := by decide +kernel
theorem d_Wa_add_7 : decode prog_7_method_5_code 7 = .ok (.aload_n 0, 1) := by decide +kernel
theorem d_Wa_add_8 : decode prog_7_method_5_code 8 = .ok (.getfield 9, 3) := by decide +kernel
theorem d_Wa_add_11 : decode prog_7_method_5_code 11 = .ok (.iload_n 1, 1) := by decide +kernel
theorem d_Wa_add_12 : decode prog_7_method_5_code 12 = .ok (.iload_n 2, 1) := by decide +kernel
theorem d_Wa_add_13 : decode prog_7_method_5_code 13 = .ok (.iastore, 1) := by decide +kernel
theorem d_Wa_add_14 : decode prog_7_method_5_code 14 = .ok (.return_, 1) := by decide +kernel
theorem d_De_flush_0 : decode prog_1_method_6_code 0 = .ok (.iload_n 1, 1) := by decide +kernel
theorem d_De_flush_1 : decode prog_1_method_6_code 1 = .ok (.ifCond .lt 11, 3) := by decide +kernel
theorem d_De_flush_4 : decode prog_1_method_6_code 4 = .ok (.iload_n 1, 1) := by decide +kernel
theorem d_De_flush_5 : decode prog_1_method_6_code 5 = .ok (.aload_n 0, 1) := by decide +kernel
theorem d_De_flush_6 : decode prog_1_method_6_code 6 = .ok (.getfield 90, 3) := by decide +kernel
theorem d_De_flush_9 : decode prog_1_method_6_code 9 = .ok (.if_icmp .le 13, 3) := by decide +kernel
theorem d_De_flush_12 : decode prog_1_method_6_code 12 = .ok (.new 59, 3) := by decide +kernel
theorem d_De_flush_15 : decode prog_1_method_6_code 15 = .ok (.dup, 1) := by decide +kernel
theorem d_De_flush_16 : decode prog_1_method_6_code 16 = .ok (.ldc 105, 2) := by decide +kernel
theorem d_De_flush_18 : decode prog_1_method_6_code 18 = .ok (.invokespecial 63, 3) := by decide +kernel
theorem d_De_flush_21 : decode prog_1_method_6_code 21 = .ok (.athrow, 1) := by decide +kernel
theorem d_De_flush_22 : decode prog_1_method_6_code 22 = .ok (.iload_n 1, 1) := by decide +kernel
theorem d_De_flush_23 : decode prog_1_method_6_code 23 = .ok (.aload_n 0, 1) := by decide +kernel
theorem d_De_flush_24 : decode prog_1_method_6_code 24 = .ok (.getfield 107, 3) := by decide +kernel
theorem d_De_flush_27 : decode prog_1_method_6_code 27 = .ok (.if_icmp .gt 5, 3) := by decide +kernel
theorem d_De_flush_30 : decode prog_1_method_6_code 30 = .ok (.iconst 0, 1) := by decide +kernel
theorem d_De_flush_31 : decode prog_1_method_6_code 31 = .ok (.ireturn, 1) := by decide +kernel
theorem d_De_flush_32 : decode prog_1_method_6_code 32 = .ok (.aload_n 0, 1) := by decide +kernel
theorem d_De_flush_33 : decode prog_1_method_6_code 33 = .ok (.getfield 107, 3) := by decide +kernel
theorem d_De_flush_36 : decode prog_1_method_6_code 36 = .ok (.invokestatic 110, 3) := by decide +kernel
theorem d_De_flush_39 : decode prog_1_method_6_code 39 = .ok (.istore_n 2, 1) := by decide +kernel
theorem d_De_flush_40 : decode prog_1_method_6_code 40 = .ok (.iload_n 1, 1) := by decide +kernel
theorem d_De_flush_41 : decode prog_1_method_6_code 41 = .ok (.iconst 1, 1) := by decide +kernel
theorem d_De_flush_42 : decode prog_1_method_6_code 42 = .ok (.isub, 1) := by decide +kernel
theorem d_De_flush_43 : decode prog_1_method_6_code 43 = .ok (.invokestatic 110, 3) := by decide +kernel
theorem d_De_flush_46 : decode prog_1_method_6_code 46 = .ok (.istore_n 3, 1) := by decide +kernel
theorem d_De_flush_47 : decode prog_1_method_6_code 47 = .ok (.iload_n 2, 1) := by decide +kernel
theorem d_De_flush_48 : decode prog_1_method_6_code 48 = .ok (.istore 4, 2) := by decide +kernel
theorem d_De_flush_50 : decode prog_1_method_6_code 50 = .ok (.iload 4, 2) := by decide +kernel
theorem d_De_flush_52 : decode prog_1_method_6_code 52 = .ok (.iload_n 3, 1) := by decide +kernel
theorem d_De_flush_53 : decode prog_1_method_6_code 53 = .ok (.if_icmp .gt 52, 3) := by decide +kernel
theorem d_De_flush_56 : decode prog_1_method_6_code 56 = .ok (.aload_n 0, 1) := by decide +kernel
theorem d_De_flush_57 : decode prog_1_method_6_code 57 = .ok (.getfield 40, 3) := by decide +kernel
theorem d_De_flush_60 : decode prog_1_method_6_code 60 = .ok (.invokevirtual 113, 3) := by decide +kernel
theorem d_De_flush_63 : decode prog_1_method_6_code 63 = .ok (.ifCond .ne 17, 3) := by decide +kernel
theorem d_De_flush_66 : decode prog_1_method_6_code 66 = .ok (.aload_n 0, 1) := by decide +kernel
theorem d_De_flush_67 : decode prog_1_method_6_code 67 = .ok (.invokevirtual 117, 3) := by decide +kernel
theorem d_De_flush_70 : decode prog_1_method_6_code 70 = .ok (.new 120, 3) := by decide +kernel
theorem d_De_flush_73 : decode prog_1_method_6_code 73 = .ok (.dup, 1) := by decide +kernel
theorem d_De_flush_74 : decode prog_1_method_6_code 74 = .ok (.ldc 122, 2) := by decide +kernel
theorem d_De_flush_76 : decode prog_1_method_6_code 76 = .ok (.invokespecial 124, 3) := by decide +kernel
theorem d_De_flush_79 : decode prog_1_method_6_code 79 = .ok (.athrow, 1) := by decide +kernel
theorem d_De_flush_80 : decode prog_1_method_6_code 80 = .ok (.aload_n 0, 1) := by decide +kernel
theorem d_De_flush_81 : decode prog_1_method_6_code 81 = .ok (.iload 4, 2) := by decide +kernel
theorem d_De_flush_83 : decode prog_1_method_6_code 83 = .ok (.iconst 1, 1) := by decide +kernel
theorem d_De_flush_84 : decode prog_1_method_6_code 84 = .ok (.iadd, 1) := by decide +kernel
theorem d_De_flush_85 : decode prog_1_method_6_code 85 = .ok (.sipush 500, 3) := by decide +kernel
theorem d_De_flush_88 : decode prog_1_method_6_code 88 = .ok (.imul, 1) := by decide +kernel
theorem d_De_flush_89 : decode prog_1_method_6_code 89 = .ok (.aload_n 0, 1) := by decide +kernel
theorem d_De_flush_90 : decode prog_1_method_6_code 90 = .ok (.getfield 90, 3) := by decide +kernel
theorem d_De_flush_93 : decode prog_1_method_6_code 93 = .ok (.invokestatic 125, 3) := by decide +kernel
theorem d_De_flush_96 : decode prog_1_method_6_code 96 = .ok (.putfield 107, 3) := by decide +kernel
theorem d_De_flush_99 : decode prog_1_method_6_code 99 = .ok (.iinc 4 1, 3) := by decide +kernel
theorem d_De_flush_102 : decode prog_1_method_6_code 102 = .ok (.goto (-52), 3) := by decide +kernel
theorem d_De_flush_105 : decode prog_1_method_6_code 105 = .ok (.iload_n 3, 1) := by decide +kernel
theorem d_De_flush_106 : decode prog_1_method_6_code 106 = .ok (.iload_n 2, 1) := by decide +kernel
theorem d_De_flush_107 : decode prog_1_method_6_code 107 = .ok (.isub, 1) := by decide +kernel
theorem d_De_flush_108 : decode prog_1_method_6_code 108 = .ok (.iconst 1, 1) := by decide +kernel
theorem d_De_flush_109 : decode prog_1_method_6_code 109 = .ok (.iadd, 1) := by decide +kernel
theorem d_De_flush_110 : decode prog_1_method_6_code 110 = .ok (.ireturn, 1) := by decide +kernel
theorem d_Di_writeBlock_0 : decode prog_3_method_5_code 0 = .ok (.aload_n 0, 1) := by decide +kernel
theorem d_Di_writeBlock_1 : decode prog_3_method_5_code 1 = .ok (.getfield 9, 3) := by decide +kernel
theorem d_Di_writeBlock_4 : decode prog_3_method_5_code 4 = .ok (.ifCond .ne 5, 3) := by decide +kernel
theorem d_Di_writeBlock_7 : decode prog_3_method_5_code 7 = .ok (.iconst 0, 1) := by decide +kernel
theorem d_Di_writeBlock_8 : decode prog_3_method_5_code 8 = .ok (.ireturn, 1) := by decide +kernel
theorem d_Di_writeBlock_9 : decode prog_3_method_5_code 9 = .ok (.aload_n 0, 1) := by decide +kernel
theorem d_Di_writeBlock_10 : decode prog_3_method_5_code 10 = .ok (.getfield 9, 3) := by decide +kernel
theorem d_Di_writeBlock_13 : decode prog_3_method_5_code 13 = .ok (.iconst (-1), 1) := by decide +kernel
theorem d_Di_writeBlock_14 : decode prog_3_method_5_code 14 = .ok (.if_icmp .eq 13, 3) := by decide +kernel
theorem d_Di_writeBlock_17 : decode prog_3_method_5_code 17 = .ok (.aload_n 0, 1) := by decide +kernel
theorem d_Di_writeBlock_18 : decode prog_3_method_5_code 18 = .ok (.dup, 1) := by decide +kernel
theorem d_Di_writeBlock_19 : decode prog_3_method_5_code 19 = .ok (.getfield 9, 3) := by decide +kernel
theorem d_Di_writeBlock_22 : decode prog_3_method_5_code 22 = .ok (.iconst 1, 1) := by decide +kernel
theorem d_Di_writeBlock_23 : decode prog_3_method_5_code 23 = .ok (.isub, 1) := by decide +kernel
theorem d_Di_writeBlock_24 : decode prog_3_method_5_code 24 = .ok (.putfield 9, 3) := by decide +kernel
theorem d_Di_writeBlock_27 : decode prog_3_method_5_code 27 = .ok (.aload_n 0, 1) := by decide +kernel
theorem d_Di_writeBlock_28 : decode prog_3_method_5_code 28 = .ok (.dup, 1) := by decide +kernel
theorem d_Di_writeBlock_29 : decode prog_3_method_5_code 29 = .ok (.getfield 15, 3) := by decide +kernel
theorem d_Di_writeBlock_32 : decode prog_3_method_5_code 32 = .ok (.iconst 1, 1) := by decide +kernel
theorem d_Di_writeBlock_33 : decode prog_3_method_5_code 33 = .ok (.iadd, 1) := by decide +kernel
theorem d_Di_writeBlock_34 : decode prog_3_method_5_code 34 = .ok (.putfield 15, 3) := by decide +kernel
theorem d_Di_writeBlock_37 : decode prog_3_method_5_code 37 = .ok (.iconst 1, 1) := by decide +kernel
theorem d_Di_writeBlock_38 : decode prog_3_method_5_code 38 = .ok (.ireturn, 1) := by decide +kernel
theorem d_De_cutPower_0 : decode prog_1_method_24_code 0 = .ok (.aload_n 0, 1) := by decide +kernel
theorem d_De_cutPower_1 : decode prog_1_method_24_code 1 = .ok (.invokevirtual 150, 3) := by decide +kernel
theorem d_De_cutPower_4 : decode prog_1_method_24_code 4 = .ok (.pop, 1) := by decide +kernel
theorem d_De_cutPower_5 : decode prog_1_method_24_code 5 = .ok (.aload_n 0, 1) := by decide +kernel
theorem d_De_cutPower_6 : decode prog_1_method_24_code 6 = .ok (.getfield 40, 3) := by decide +kernel
theorem d_De_cutPower_9 : decode prog_1_method_24_code 9 = .ok (.invokevirtual 177, 3) := by decide +kernel
theorem d_De_cutPower_12 : decode prog_1_method_24_code 12 = .ok (.return_, 1) := by decide +kernel
theorem d_Di_dropCharge_0 : decode prog_3_method_4_code 0 = .ok (.aload_n 0, 1) := by decide +kernel
theorem d_Di_dropCharge_1 : decode prog_3_method_4_code 1 = .ok (.iconst (-1), 1) := by decide +kernel
theorem d_Di_dropCharge_2 : decode prog_3_method_4_code 2 = .ok (.putfield 9, 3) := by decide +kernel
theorem d_Di_dropCharge_5 : decode prog_3_method_4_code 5 = .ok (.return_, 1) := by decide +kernel
theorem d_Ma_min_0 : decode prog_13_method_69_code 0 = .ok (.iload_n 0, 1) := by decide +kernel
theorem d_Ma_min_1 : decode prog_13_method_69_code 1 = .ok (.iload_n 1, 1) := by decide +kernel
theorem d_Ma_min_2 : decode prog_13_method_69_code 2 = .ok (.if_icmp .gt 7, 3) := by decide +kernel
theorem d_Ma_min_5 : decode prog_13_method_69_code 5 = .ok (.iload_n 0, 1) := by decide +kernel
theorem d_Ma_min_6 : decode prog_13_method_69_code 6 = .ok (.goto 4, 3) := by decide +kernel
theorem d_Ma_min_9 : decode prog_13_method_69_code 9 = .ok (.iload_n 1, 1) := by decide +kernel
theorem d_Ma_min_10 : decode prog_13_method_69_code 10 = .ok (.ireturn, 1) := by decide +kernel
theorem d_De_checkpoint_0 : decode prog_1_method_10_code 0 = .ok (.iload_n 1, 1) := by decide +kernel
theorem d_De_checkpoint_1 : decode prog_1_method_10_code 1 = .ok (.aload_n 0, 1) := by decide +kernel
theorem d_De_checkpoint_2 : decode prog_1_method_10_code 2 = .ok (.getfield 107, 3) := by decide +kernel
theorem d_De_checkpoint_5 : decode prog_1_method_10_code 5 = .ok (.if_icmp .gt 11, 3) := by decide +kernel
theorem d_De_checkpoint_8 : decode prog_1_method_10_code 8 = .ok (.aload_n 0, 1) := by decide +kernel
theorem d_De_checkpoint_9 : decode prog_1_method_10_code 9 = .ok (.iload_n 1, 1) := by decide +kernel
theorem d_De_checkpoint_10 : decode prog_1_method_10_code 10 = .ok (.invokevirtual 142, 3) := by decide +kernel
theorem d_De_checkpoint_13 : decode prog_1_method_10_code 13 = .ok (.ifCond .ne 13, 3) := by decide +kernel
theorem d_De_checkpoint_16 : decode prog_1_method_10_code 16 = .ok (.new 59, 3) := by decide +kernel
theorem d_De_checkpoint_19 : decode prog_1_method_10_code 19 = .ok (.dup, 1) := by decide +kernel
theorem d_De_checkpoint_20 : decode prog_1_method_10_code 20 = .ok (.ldc 145, 2) := by decide +kernel
theorem d_De_checkpoint_22 : decode prog_1_method_10_code 22 = .ok (.invokespecial 63, 3) := by decide +kernel
theorem d_De_checkpoint_25 : decode prog_1_method_10_code 25 = .ok (.athrow, 1) := by decide +kernel
theorem d_De_checkpoint_26 : decode prog_1_method_10_code 26 = .ok (.aload_n 0, 1) := by decide +kernel
theorem d_De_checkpoint_27 : decode prog_1_method_10_code 27 = .ok (.getfield 40, 3) := by decide +kernel
theorem d_De_checkpoint_30 : decode prog_1_method_10_code 30 = .ok (.invokevirtual 113, 3) := by decide +kernel
theorem d_De_checkpoint_33 : decode prog_1_method_10_code 33 = .ok (.ifCond .ne 17, 3) := by decide +kernel
theorem d_De_checkpoint_36 : decode prog_1_method_10_code 36 = .ok (.aload_n 0, 1) := by decide +kernel
theorem d_De_checkpoint_37 : decode prog_1_method_10_code 37 = .ok (.invokevirtual 117, 3) := by decide +kernel
theorem d_De_checkpoint_40 : decode prog_1_method_10_code 40 = .ok (.new 120, 3) := by decide +kernel
theorem d_De_checkpoint_43 : decode prog_1_method_10_code 43 = .ok (.dup, 1) := by decide +kernel
theorem d_De_checkpoint_44 : decode prog_1_method_10_code 44 = .ok (.ldc 122, 2) := by decide +kernel
theorem d_De_checkpoint_46 : decode prog_1_method_10_code 46 = .ok (.invokespecial 124, 3) := by decide +kernel
theorem d_De_checkpoint_49 : decode prog_1_method_10_code 49 = .ok (.athrow, 1) := by decide +kernel
theorem d_De_checkpoint_50 : decode prog_1_method_10_code 50 = .ok (.aload_n 0, 1) := by decide +kernel
theorem d_De_checkpoint_51 : decode prog_1_method_10_code 51 = .ok (.iload_n 1, 1) := by decide +kernel
theorem d_De_checkpoint_52 : decode prog_1_method_10_code 52 = .ok (.putfield 147, 3) := by decide +kernel
theorem d_De_checkpoint_55 : decode prog_1_method_10_code 55 = .ok (.aload_n 0, 1) := by decide +kernel
theorem d_De_checkpoint_56 : decode prog_1_method_10_code 56 = .ok (.iconst (-1), 1) := by decide +kernel
theorem d_De_checkpoint_57 : decode prog_1_method_10_code 57 = .ok (.putfield 48, 3) := by decide +kernel
theorem d_De_checkpoint_60 : decode prog_1_method_10_code 60 = .ok (.aload_n 0, 1) := by decide +kernel
theorem d_De_checkpoint_61 : decode prog_1_method_10_code 61 = .ok (.getfield 44, 3) := by decide +kernel
theorem d_De_checkpoint_64 : decode prog_1_method_10_code 64 = .ok (.aload_n 0, 1) := by decide +kernel
theorem d_De_checkpoint_65 : decode prog_1_method_10_code 65 = .ok (.getfield 90, 3) := by decide +kernel
theorem d_De_checkpoint_68 : decode prog_1_method_10_code 68 = .ok (.invokestatic 110, 3) := by decide +kernel
theorem d_De_checkpoint_71 : decode prog_1_method_10_code 71 = .ok (.aload_n 0, 1) := by decide +kernel
theorem d_De_checkpoint_72 : decode prog_1_method_10_code 72 = .ok (.getfield 147, 3) := by decide +kernel
theorem d_De_checkpoint_75 : decode prog_1_method_10_code 75 = .ok (.invokestatic 110, 3) := by decide +kernel
theorem d_De_checkpoint_78 : decode prog_1_method_10_code 78 = .ok (.isub, 1) := by decide +kernel
theorem d_De_checkpoint_79 : decode prog_1_method_10_code 79 = .ok (.iconst 1, 1) := by decide +kernel
theorem d_De_checkpoint_80 : decode prog_1_method_10_code 80 = .ok (.iadd, 1) := by decide +kernel
theorem d_De_checkpoint_81 : decode prog_1_method_10_code 81 = .ok (.isub, 1) := by decide +kernel
theorem d_De_checkpoint_82 : decode prog_1_method_10_code 82 = .ok (.ireturn, 1) := by decide +kernel
theorem d_De_isEdge_0 : decode prog_1_method_22_code 0 = .ok (.aload_n 0, 1) := by decide +kernel
theorem d_De_isEdge_1 : decode prog_1_method_22_code 1 = .ok (.getfield 147, 3) := by decide +kernel
theorem d_De_isEdge_4 : decode prog_1_method_22_code 4 = .ok (.istore_n 2, 1) := by decide +kernel
theorem d_De_isEdge_5 : decode prog_1_method_22_code 5 = .ok (.iconst 0, 1) := by decide +kernel
theorem d_De_isEdge_6 : decode prog_1_method_22_code 6 = .ok (.istore_n 3, 1) := by decide +kernel
theorem d_De_isEdge_7 : decode prog_1_method_22_code 7 = .ok (.iload_n 3, 1) := by decide +kernel
theorem d_De_isEdge_8 : decode prog_1_method_22_code 8 = .ok (.sipush 5334, 3) := by decide +kernel
theorem d_De_isEdge_11 : decode prog_1_method_22_code 11 = .ok (.if_icmp .ge 28, 3) := by decide +kernel
theorem d_De_isEdge_14 : decode prog_1_method_22_code 14 = .ok (.iload_n 2, 1) := by decide +kernel
theorem d_De_isEdge_15 : decode prog_1_method_22_code 15 = .ok (.iload_n 1, 1) := by decide +kernel
theorem d_De_isEdge_16 : decode prog_1_method_22_code 16 = .ok (.if_icmp .ge 23, 3) := by decide +kernel
theorem d_De_isEdge_19 : decode prog_1_method_22_code 19 = .ok (.iload_n 2, 1) := by decide +kernel
theorem d_De_isEdge_20 : decode prog_1_method_22_code 20 = .ok (.aload_n 0, 1) := by decide +kernel
theorem d_De_isEdge_21 : decode prog_1_method_22_code 21 = .ok (.getfield 90, 3) := by decide +kernel
theorem d_De_isEdge_24 : decode prog_1_method_22_code 24 = .ok (.if_icmp .ge 15, 3) := by decide +kernel
theorem d_De_isEdge_27 : decode prog_1_method_22_code 27 = .ok (.aload_n 0, 1) := by decide +kernel
theorem d_De_isEdge_28 : decode prog_1_method_22_code 28 = .ok (.iload_n 2, 1) := by decide +kernel
theorem d_De_isEdge_29 : decode prog_1_method_22_code 29 = .ok (.invokevirtual 153, 3) := by decide +kernel
theorem d_De_isEdge_32 : decode prog_1_method_22_code 32 = .ok (.istore_n 2, 1) := by decide +kernel
theorem d_De_isEdge_33 : decode prog_1_method_22_code 33 = .ok (.iinc 3 1, 3) := by decide +kernel
theorem d_De_isEdge_36 : decode prog_1_method_22_code 36 = .ok (.goto (-29), 3) := by decide +kernel
theorem d_De_isEdge_39 : decode prog_1_method_22_code 39 = .ok (.iload_n 2, 1) := by decide +kernel
theorem d_De_isEdge_40 : decode prog_1_method_22_code 40 = .ok (.iload_n 1, 1) := by decide +kernel
theorem d_De_isEdge_41 : decode prog_1_method_22_code 41 = .ok (.if_icmp .ne 7, 3) := by decide +kernel
theorem d_De_isEdge_44 : decode prog_1_method_22_code 44 = .ok (.iconst 1, 1) := by decide +kernel
theorem d_De_isEdge_45 : decode prog_1_method_22_code 45 = .ok (.goto 4, 3) := by decide +kernel
theorem d_De_isEdge_48 : decode prog_1_method_22_code 48 = .ok (.iconst 0, 1) := by decide +kernel
theorem d_De_isEdge_49 : decode prog_1_method_22_code 49 = .ok (.ireturn, 1) := by decide +kernel
theorem d_De_next_0 : decode prog_1_method_12_code 0 = .ok (.aload_n 0, 1) := by decide +kernel
theorem d_De_next_1 : decode prog_1_method_12_code 1 = .ok (.getfield 48, 3) := by decide +kernel
theorem d_De_next_4 : decode prog_1_method_12_code 4 = .ok (.iconst (-1), 1) := by decide +kernel
theorem d_De_next_5 : decode prog_1_method_12_code 5 = .ok (.if_icmp .ne 10, 3) := by decide +kernel
theorem d_De_next_8 : decode prog_1_method_12_code 8 = .ok (.aload_n 0, 1) := by decide +kernel
theorem d_De_next_9 : decode prog_1_method_12_code 9 = .ok (.getfield 147, 3) := by decide +kernel
theorem d_De_next_12 : decode prog_1_method_12_code 12 = .ok (.goto 11, 3) := by decide +kernel
theorem d_De_next_15 : decode prog_1_method_12_code 15 = .ok (.aload_n 0, 1) := by decide +kernel
theorem d_De_next_16 : decode prog_1_method_12_code 16 = .ok (.aload_n 0, 1) := by decide +kernel
theorem d_De_next_17 : decode prog_1_method_12_code 17 = .ok (.getfield 48, 3) := by decide +kernel
theorem d_De_next_20 : decode prog_1_method_12_code 20 = .ok (.invokevirtual 153, 3) := by decide +kernel
theorem d_De_next_23 : decode prog_1_method_12_code 23 = .ok (.istore_n 1, 1) := by decide +kernel
theorem d_De_next_24 : decode prog_1_method_12_code 24 = .ok (.iload_n 1, 1) := by decide +kernel
theorem d_De_next_25 : decode prog_1_method_12_code 25 = .ok (.aload_n 0, 1) := by decide +kernel
theorem d_De_next_26 : decode prog_1_method_12_code 26 = .ok (.getfield 90, 3) := by decide +kernel
theorem d_De_next_29 : decode prog_1_method_12_code 29 = .ok (.if_icmp .lt 13, 3) := by decide +kernel
theorem d_De_next_32 : decode prog_1_method_12_code 32 = .ok (.new 156, 3) := by decide +kernel
theorem d_De_next_35 : decode prog_1_method_12_code 35 = .ok (.dup, 1) := by decide +kernel
theorem d_De_next_36 : decode prog_1_method_12_code 36 = .ok (.ldc 158, 2) := by decide +kernel
theorem d_De_next_38 : decode prog_1_method_12_code 38 = .ok (.invokespecial 160, 3) := by decide +kernel
theorem d_De_next_41 : decode prog_1_method_12_code 41 = .ok (.athrow, 1) := by decide +kernel
theorem d_De_next_42 : decode prog_1_method_12_code 42 = .ok (.aload_n 0, 1) := by decide +kernel
theorem d_De_next_43 : decode prog_1_method_12_code 43 = .ok (.iload_n 1, 1) := by decide +kernel
theorem d_De_next_44 : decode prog_1_method_12_code 44 = .ok (.putfield 48, 3) := by decide +kernel
theorem d_De_next_47 : decode prog_1_method_12_code 47 = .ok (.aload_n 0, 1) := by decide +kernel
theorem d_De_next_48 : decode prog_1_method_12_code 48 = .ok (.getfield 12, 3) := by decide +kernel
theorem d_De_next_51 : decode prog_1_method_12_code 51 = .ok (.iload_n 1, 1) := by decide +kernel
theorem d_De_next_52 : decode prog_1_method_12_code 52 = .ok (.invokevirtual 161, 3) := by decide +kernel
theorem d_De_next_55 : decode prog_1_method_12_code 55 = .ok (.ireturn, 1) := by decide +kernel
theorem d_De_charge_0 : decode prog_1_method_15_code 0 = .ok (.iload_n 1, 1) := by decide +kernel
theorem d_De_charge_1 : decode prog_1_method_15_code 1 = .ok (.ifCond .lt 10, 3) := by decide +kernel
theorem d_De_charge_4 : decode prog_1_method_15_code 4 = .ok (.iload_n 1, 1) := by decide +kernel
theorem d_De_charge_5 : decode prog_1_method_15_code 5 = .ok (.sipush 999, 3) := by decide +kernel
theorem d_De_charge_8 : decode prog_1_method_15_code 8 = .ok (.if_icmp .le 13, 3) := by decide +kernel
theorem d_De_charge_11 : decode prog_1_method_15_code 11 = .ok (.new 59, 3) := by decide +kernel
theorem d_De_charge_14 : decode prog_1_method_15_code 14 = .ok (.dup, 1) := by decide +kernel
theorem d_De_charge_15 : decode prog_1_method_15_code 15 = .ok (.ldc 165, 2) := by decide +kernel
theorem d_De_charge_17 : decode prog_1_method_15_code 17 = .ok (.invokespecial 63, 3) := by decide +kernel
theorem d_De_charge_20 : decode prog_1_method_15_code 20 = .ok (.athrow, 1) := by decide +kernel
theorem d_De_charge_21 : decode prog_1_method_15_code 21 = .ok (.aload_n 0, 1) := by decide +kernel
theorem d_De_charge_22 : decode prog_1_method_15_code 22 = .ok (.getfield 40, 3) := by decide +kernel
theorem d_De_charge_25 : decode prog_1_method_15_code 25 = .ok (.iload_n 1, 1) := by decide +kernel
theorem d_De_charge_26 : decode prog_1_method_15_code 26 = .ok (.invokevirtual 167, 3) := by decide +kernel
theorem d_De_charge_29 : decode prog_1_method_15_code 29 = .ok (.return_, 1) := by decide +kernel
theorem d_Di_setCharge_0 : decode prog_3_method_3_code 0 = .ok (.aload_n 0, 1) := by decide +kernel
theorem d_Di_setCharge_1 : decode prog_3_method_3_code 1 = .ok (.iload_n 1, 1) := by decide +kernel
theorem d_Di_setCharge_2 : decode prog_3_method_3_code 2 = .ok (.putfield 9, 3) := by decide +kernel
theorem d_Di_setCharge_5 : decode prog_3_method_3_code 5 = .ok (.return_, 1) := by decide +kernel
