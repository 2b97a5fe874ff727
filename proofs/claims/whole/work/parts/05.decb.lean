theorem d_Mo_init_0 : decode prog_9_method_1_code 0 = .ok (.aload_n 0, 1) := by decide +kernel
theorem d_Mo_init_1 : decode prog_9_method_1_code 1 = .ok (.invokespecial 1, 3) := by decide +kernel
theorem d_Mo_init_4 : decode prog_9_method_1_code 4 = .ok (.aload_n 0, 1) := by decide +kernel
theorem d_Mo_init_5 : decode prog_9_method_1_code 5 = .ok (.sipush 800, 3) := by decide +kernel
theorem d_Mo_init_8 : decode prog_9_method_1_code 8 = .ok (.newarray .int, 2) := by decide +kernel
theorem d_Mo_init_10 : decode prog_9_method_1_code 10 = .ok (.putfield 7, 3) := by decide +kernel
theorem d_Mo_init_13 : decode prog_9_method_1_code 13 = .ok (.aload_n 0, 1) := by decide +kernel
theorem d_Mo_init_14 : decode prog_9_method_1_code 14 = .ok (.sipush 800, 3) := by decide +kernel
theorem d_Mo_init_17 : decode prog_9_method_1_code 17 = .ok (.newarray .int, 2) := by decide +kernel
theorem d_Mo_init_19 : decode prog_9_method_1_code 19 = .ok (.putfield 13, 3) := by decide +kernel
theorem d_Mo_init_22 : decode prog_9_method_1_code 22 = .ok (.aload_n 0, 1) := by decide +kernel
theorem d_Mo_init_23 : decode prog_9_method_1_code 23 = .ok (.sipush 800, 3) := by decide +kernel
theorem d_Mo_init_26 : decode prog_9_method_1_code 26 = .ok (.newarray .int, 2) := by decide +kernel
theorem d_Mo_init_28 : decode prog_9_method_1_code 28 = .ok (.putfield 16, 3) := by decide +kernel
theorem d_Mo_init_31 : decode prog_9_method_1_code 31 = .ok (.aload_n 0, 1) := by decide +kernel
theorem d_Mo_init_32 : decode prog_9_method_1_code 32 = .ok (.sipush 800, 3) := by decide +kernel
theorem d_Mo_init_35 : decode prog_9_method_1_code 35 = .ok (.newarray .int, 2) := by decide +kernel
theorem d_Mo_init_37 : decode prog_9_method_1_code 37 = .ok (.putfield 19, 3) := by decide +kernel
theorem d_Mo_init_40 : decode prog_9_method_1_code 40 = .ok (.aload_n 0, 1) := by decide +kernel
theorem d_Mo_init_41 : decode prog_9_method_1_code 41 = .ok (.sipush 19000, 3) := by decide +kernel
theorem d_Mo_init_44 : decode prog_9_method_1_code 44 = .ok (.newarray .byte, 2) := by decide +kernel
theorem d_Mo_init_46 : decode prog_9_method_1_code 46 = .ok (.putfield 22, 3) := by decide +kernel
theorem d_Mo_init_49 : decode prog_9_method_1_code 49 = .ok (.aload_n 0, 1) := by decide +kernel
theorem d_Mo_init_50 : decode prog_9_method_1_code 50 = .ok (.sipush 600, 3) := by decide +kernel
theorem d_Mo_init_53 : decode prog_9_method_1_code 53 = .ok (.newarray .int, 2) := by decide +kernel
theorem d_Mo_init_55 : decode prog_9_method_1_code 55 = .ok (.putfield 26, 3) := by decide +kernel
theorem d_Mo_init_58 : decode prog_9_method_1_code 58 = .ok (.aload_n 0, 1) := by decide +kernel
theorem d_Mo_init_59 : decode prog_9_method_1_code 59 = .ok (.iconst (-1), 1) := by decide +kernel
theorem d_Mo_init_60 : decode prog_9_method_1_code 60 = .ok (.putfield 29, 3) := by decide +kernel
theorem d_Mo_init_63 : decode prog_9_method_1_code 63 = .ok (.aload_n 0, 1) := by decide +kernel
theorem d_Mo_init_64 : decode prog_9_method_1_code 64 = .ok (.bipush 6, 2) := by decide +kernel
theorem d_Mo_init_66 : decode prog_9_method_1_code 66 = .ok (.newarray .int, 2) := by decide +kernel
theorem d_Mo_init_68 : decode prog_9_method_1_code 68 = .ok (.dup, 1) := by decide +kernel
theorem d_Mo_init_69 : decode prog_9_method_1_code 69 = .ok (.iconst 0, 1) := by decide +kernel
theorem d_Mo_init_70 : decode prog_9_method_1_code 70 = .ok (.iconst (-1), 1) := by decide +kernel
theorem d_Mo_init_71 : decode prog_9_method_1_code 71 = .ok (.iastore, 1) := by decide +kernel
theorem d_Mo_init_72 : decode prog_9_method_1_code 72 = .ok (.dup, 1) := by decide +kernel
theorem d_Mo_init_73 : decode prog_9_method_1_code 73 = .ok (.iconst 1, 1) := by decide +kernel
theorem d_Mo_init_74 : decode prog_9_method_1_code 74 = .ok (.iconst (-1), 1) := by decide +kernel
theorem d_Mo_init_75 : decode prog_9_method_1_code 75 = .ok (.iastore, 1) := by decide +kernel
theorem d_Mo_init_76 : decode prog_9_method_1_code 76 = .ok (.dup, 1) := by decide +kernel
theorem d_Mo_init_77 : decode prog_9_method_1_code 77 = .ok (.iconst 2, 1) := by decide +kernel
theorem d_Mo_init_78 : decode prog_9_method_1_code 78 = .ok (.iconst (-1), 1) := by decide +kernel
theorem d_Mo_init_79 : decode prog_9_method_1_code 79 = .ok (.iastore, 1) := by decide +kernel
theorem d_Mo_init_80 : decode prog_9_method_1_code 80 = .ok (.dup, 1) := by decide +kernel
theorem d_Mo_init_81 : decode prog_9_method_1_code 81 = .ok (.iconst 3, 1) := by decide +kernel
theorem d_Mo_init_82 : decode prog_9_method_1_code 82 = .ok (.iconst (-1), 1) := by decide +kernel
theorem d_Mo_init_83 : decode prog_9_method_1_code 83 = .ok (.iastore, 1) := by decide +kernel
theorem d_Mo_init_84 : decode prog_9_method_1_code 84 = .ok (.dup, 1) := by decide +kernel
theorem d_Mo_init_85 : decode prog_9_method_1_code 85 = .ok (.iconst 4, 1) := by decide +kernel
theorem d_Mo_init_86 : decode prog_9_method_1_code 86 = .ok (.iconst (-1), 1) := by decide +kernel
theorem d_Mo_init_87 : decode prog_9_method_1_code 87 = .ok (.iastore, 1) := by decide +kernel
theorem d_Mo_init_88 : decode prog_9_method_1_code 88 = .ok (.dup, 1) := by decide +kernel
theorem d_Mo_init_89 : decode prog_9_method_1_code 89 = .ok (.iconst 5, 1) := by decide +kernel
theorem d_Mo_init_90 : decode prog_9_method_1_code 90 = .ok (.iconst (-1), 1) := by decide +kernel
theorem d_Mo_init_91 : decode prog_9_method_1_code 91 = .ok (.iastore, 1) := by decide +kernel
theorem d_Mo_init_92 : decode prog_9_method_1_code 92 = .ok (.putfield 33, 3) := by decide +kernel
theorem d_Mo_init_95 : decode prog_9_method_1_code 95 = .ok (.aload_n 0, 1) := by decide +kernel
theorem d_Mo_init_96 : decode prog_9_method_1_code 96 = .ok (.sipush 2048, 3) := by decide +kernel
theorem d_Mo_init_99 : decode prog_9_method_1_code 99 = .ok (.newarray .boolean, 2) := by decide +kernel
theorem d_Mo_init_101 : decode prog_9_method_1_code 101 = .ok (.putfield 36, 3) := by decide +kernel
theorem d_Mo_init_104 : decode prog_9_method_1_code 104 = .ok (.aload_n 0, 1) := by decide +kernel
theorem d_Mo_init_105 : decode prog_9_method_1_code 105 = .ok (.iconst (-1), 1) := by decide +kernel
theorem d_Mo_init_106 : decode prog_9_method_1_code 106 = .ok (.putfield 40, 3) := by decide +kernel
theorem d_Mo_init_109 : decode prog_9_method_1_code 109 = .ok (.aload_n 0, 1) := by decide +kernel
theorem d_Mo_init_110 : decode prog_9_method_1_code 110 = .ok (.iload_n 1, 1) := by decide +kernel
theorem d_Mo_init_111 : decode prog_9_method_1_code 111 = .ok (.iconst 3, 1) := by decide +kernel
theorem d_Mo_init_112 : decode prog_9_method_1_code 112 = .ok (.if_icmp .lt 9, 3) := by decide +kernel
theorem d_Mo_init_115 : decode prog_9_method_1_code 115 = .ok (.iload_n 1, 1) := by decide +kernel
theorem d_Mo_init_116 : decode prog_9_method_1_code 116 = .ok (.bipush 32, 2) := by decide +kernel
theorem d_Mo_init_118 : decode prog_9_method_1_code 118 = .ok (.if_icmp .le 8, 3) := by decide +kernel
theorem d_Mo_init_121 : decode prog_9_method_1_code 121 = .ok (.bipush 32, 2) := by decide +kernel
theorem d_Mo_init_123 : decode prog_9_method_1_code 123 = .ok (.goto 4, 3) := by decide +kernel
theorem d_Mo_init_126 : decode prog_9_method_1_code 126 = .ok (.iload_n 1, 1) := by decide +kernel
theorem d_Mo_init_127 : decode prog_9_method_1_code 127 = .ok (.putfield 43, 3) := by decide +kernel
theorem d_Mo_init_130 : decode prog_9_method_1_code 130 = .ok (.return_, 1) := by decide +kernel
theorem d_Mo_thrown_0 : decode prog_9_method_2_code 0 = .ok (.aload_n 0, 1) := by decide +kernel
theorem d_Mo_thrown_1 : decode prog_9_method_2_code 1 = .ok (.getfield 46, 3) := by decide +kernel
theorem d_Mo_thrown_4 : decode prog_9_method_2_code 4 = .ok (.ireturn, 1) := by decide +kernel
theorem d_Mo_put_0 : decode prog_9_method_4_code 0 = .ok (.aload_n 0, 1) := by decide +kernel
theorem d_Mo_put_1 : decode prog_9_method_4_code 1 = .ok (.iconst 0, 1) := by decide +kernel
theorem d_Mo_put_2 : decode prog_9_method_4_code 2 = .ok (.putfield 46, 3) := by decide +kernel
theorem d_Mo_put_5 : decode prog_9_method_4_code 5 = .ok (.iload_n 3, 1) := by decide +kernel
theorem d_Mo_put_6 : decode prog_9_method_4_code 6 = .ok (.iconst 1, 1) := by decide +kernel
theorem d_Mo_put_7 : decode prog_9_method_4_code 7 = .ok (.if_icmp .lt 21, 3) := by decide +kernel
theorem d_Mo_put_10 : decode prog_9_method_4_code 10 = .ok (.iload_n 3, 1) := by decide +kernel
theorem d_Mo_put_11 : decode prog_9_method_4_code 11 = .ok (.bipush 8, 2) := by decide +kernel
theorem d_Mo_put_13 : decode prog_9_method_4_code 13 = .ok (.if_icmp .gt 15, 3) := by decide +kernel
theorem d_Mo_put_16 : decode prog_9_method_4_code 16 = .ok (.aload_n 0, 1) := by decide +kernel
theorem d_Mo_put_17 : decode prog_9_method_4_code 17 = .ok (.getfield 49, 3) := by decide +kernel
theorem d_Mo_put_20 : decode prog_9_method_4_code 20 = .ok (.iload_n 3, 1) := by decide +kernel
theorem d_Mo_put_21 : decode prog_9_method_4_code 21 = .ok (.iadd, 1) := by decide +kernel
theorem d_Mo_put_22 : decode prog_9_method_4_code 22 = .ok (.sipush 600, 3) := by decide +kernel
theorem d_Mo_put_25 : decode prog_9_method_4_code 25 = .ok (.if_icmp .le 5, 3) := by decide +kernel
theorem d_Mo_put_28 : decode prog_9_method_4_code 28 = .ok (.iconst 0, 1) := by decide +kernel
theorem d_Mo_put_29 : decode prog_9_method_4_code 29 = .ok (.ireturn, 1) := by decide +kernel
theorem d_Mo_put_30 : decode prog_9_method_4_code 30 = .ok (.iload_n 3, 1) := by decide +kernel
theorem d_Mo_put_31 : decode prog_9_method_4_code 31 = .ok (.iconst 1, 1) := by decide +kernel
theorem d_Mo_put_32 : decode prog_9_method_4_code 32 = .ok (.isub, 1) := by decide +kernel
theorem d_Mo_put_33 : decode prog_9_method_4_code 33 = .ok (.istore 4, 2) := by decide +kernel
theorem d_Mo_put_35 : decode prog_9_method_4_code 35 = .ok (.iload 4, 2) := by decide +kernel
theorem d_Mo_put_37 : decode prog_9_method_4_code 37 = .ok (.ifCond .lt 40, 3) := by decide +kernel
theorem d_Mo_put_40 : decode prog_9_method_4_code 40 = .ok (.aload_n 0, 1) := by decide +kernel
theorem d_Mo_put_41 : decode prog_9_method_4_code 41 = .ok (.getfield 26, 3) := by decide +kernel
theorem d_Mo_put_44 : decode prog_9_method_4_code 44 = .ok (.aload_n 0, 1) := by decide +kernel
theorem d_Mo_put_45 : decode prog_9_method_4_code 45 = .ok (.getfield 49, 3) := by decide +kernel
theorem d_Mo_put_48 : decode prog_9_method_4_code 48 = .ok (.lload_n 1, 1) := by decide +kernel
theorem d_Mo_put_49 : decode prog_9_method_4_code 49 = .ok (.bipush 8, 2) := by decide +kernel
theorem d_Mo_put_51 : decode prog_9_method_4_code 51 = .ok (.iload 4, 2) := by decide +kernel
theorem d_Mo_put_53 : decode prog_9_method_4_code 53 = .ok (.imul, 1) := by decide +kernel
theorem d_Mo_put_54 : decode prog_9_method_4_code 54 = .ok (.lshr, 1) := by decide +kernel
theorem d_Mo_put_55 : decode prog_9_method_4_code 55 = .ok (.ldc2_w 52, 3) := by decide +kernel
theorem d_Mo_put_58 : decode prog_9_method_4_code 58 = .ok (.land, 1) := by decide +kernel
theorem d_Mo_put_59 : decode prog_9_method_4_code 59 = .ok (.l2i, 1) := by decide +kernel
theorem d_Mo_put_60 : decode prog_9_method_4_code 60 = .ok (.iastore, 1) := by decide +kernel
theorem d_Mo_put_61 : decode prog_9_method_4_code 61 = .ok (.aload_n 0, 1) := by decide +kernel
theorem d_Mo_put_62 : decode prog_9_method_4_code 62 = .ok (.dup, 1) := by decide +kernel
theorem d_Mo_put_63 : decode prog_9_method_4_code 63 = .ok (.getfield 49, 3) := by decide +kernel
theorem d_Mo_put_66 : decode prog_9_method_4_code 66 = .ok (.iconst 1, 1) := by decide +kernel
theorem d_Mo_put_67 : decode prog_9_method_4_code 67 = .ok (.iadd, 1) := by decide +kernel
theorem d_Mo_put_68 : decode prog_9_method_4_code 68 = .ok (.putfield 49, 3) := by decide +kernel
theorem d_Mo_put_71 : decode prog_9_method_4_code 71 = .ok (.iinc 4 (-1), 3) := by decide +kernel
theorem d_Mo_put_74 : decode prog_9_method_4_code 74 = .ok (.goto (-39), 3) := by decide +kernel
theorem d_Mo_put_77 : decode prog_9_method_4_code 77 = .ok (.iconst 1, 1) := by decide +kernel
theorem d_Mo_put_78 : decode prog_9_method_4_code 78 = .ok (.ireturn, 1) := by decide +kernel
theorem d_Mo_fill_0 : decode prog_9_method_5_code 0 = .ok (.aload_n 0, 1) := by decide +kernel
theorem d_Mo_fill_1 : decode prog_9_method_5_code 1 = .ok (.iconst 0, 1) := by decide +kernel
theorem d_Mo_fill_2 : decode prog_9_method_5_code 2 = .ok (.putfield 46, 3) := by decide +kernel
theorem d_Mo_fill_5 : decode prog_9_method_5_code 5 = .ok (.iload_n 2, 1) := by decide +kernel
theorem d_Mo_fill_6 : decode prog_9_method_5_code 6 = .ok (.iconst 1, 1) := by decide +kernel
theorem d_Mo_fill_7 : decode prog_9_method_5_code 7 = .ok (.if_icmp .lt 22, 3) := by decide +kernel
theorem d_Mo_fill_10 : decode prog_9_method_5_code 10 = .ok (.iload_n 2, 1) := by decide +kernel
theorem d_Mo_fill_11 : decode prog_9_method_5_code 11 = .ok (.sipush 600, 3) := by decide +kernel
theorem d_Mo_fill_14 : decode prog_9_method_5_code 14 = .ok (.if_icmp .gt 15, 3) := by decide +kernel
theorem d_Mo_fill_17 : decode prog_9_method_5_code 17 = .ok (.aload_n 0, 1) := by decide +kernel
theorem d_Mo_fill_18 : decode prog_9_method_5_code 18 = .ok (.getfield 49, 3) := by decide +kernel
theorem d_Mo_fill_21 : decode prog_9_method_5_code 21 = .ok (.iload_n 2, 1) := by decide +kernel
theorem d_Mo_fill_22 : decode prog_9_method_5_code 22 = .ok (.iadd, 1) := by decide +kernel
theorem d_Mo_fill_23 : decode prog_9_method_5_code 23 = .ok (.sipush 600, 3) := by decide +kernel
theorem d_Mo_fill_26 : decode prog_9_method_5_code 26 = .ok (.if_icmp .le 5, 3) := by decide +kernel
theorem d_Mo_fill_29 : decode prog_9_method_5_code 29 = .ok (.iconst 0, 1) := by decide +kernel
theorem d_Mo_fill_30 : decode prog_9_method_5_code 30 = .ok (.ireturn, 1) := by decide +kernel
theorem d_Mo_fill_31 : decode prog_9_method_5_code 31 = .ok (.iconst 0, 1) := by decide +kernel
theorem d_Mo_fill_32 : decode prog_9_method_5_code 32 = .ok (.istore_n 3, 1) := by decide +kernel
theorem d_Mo_fill_33 : decode prog_9_method_5_code 33 = .ok (.iload_n 3, 1) := by decide +kernel
theorem d_Mo_fill_34 : decode prog_9_method_5_code 34 = .ok (.iload_n 2, 1) := by decide +kernel
theorem d_Mo_fill_35 : decode prog_9_method_5_code 35 = .ok (.if_icmp .ge 33, 3) := by decide +kernel
theorem d_Mo_fill_38 : decode prog_9_method_5_code 38 = .ok (.aload_n 0, 1) := by decide +kernel
theorem d_Mo_fill_39 : decode prog_9_method_5_code 39 = .ok (.getfield 26, 3) := by decide +kernel
theorem d_Mo_fill_42 : decode prog_9_method_5_code 42 = .ok (.aload_n 0, 1) := by decide +kernel
theorem d_Mo_fill_43 : decode prog_9_method_5_code 43 = .ok (.getfield 49, 3) := by decide +kernel
theorem d_Mo_fill_46 : decode prog_9_method_5_code 46 = .ok (.iload_n 1, 1) := by decide +kernel
theorem d_Mo_fill_47 : decode prog_9_method_5_code 47 = .ok (.sipush 255, 3) := by decide +kernel
theorem d_Mo_fill_50 : decode prog_9_method_5_code 50 = .ok (.iand, 1) := by decide +kernel
theorem d_Mo_fill_51 : decode prog_9_method_5_code 51 = .ok (.iastore, 1) := by decide +kernel
theorem d_Mo_fill_52 : decode prog_9_method_5_code 52 = .ok (.aload_n 0, 1) := by decide +kernel
theorem d_Mo_fill_53 : decode prog_9_method_5_code 53 = .ok (.dup, 1) := by decide +kernel
theorem d_Mo_fill_54 : decode prog_9_method_5_code 54 = .ok (.getfield 49, 3) := by decide +kernel
theorem d_Mo_fill_57 : decode prog_9_method_5_code 57 = .ok (.iconst 1, 1) := by decide +kernel
theorem d_Mo_fill_58 : decode prog_9_method_5_code 58 = .ok (.iadd, 1) := by decide +kernel
theorem d_Mo_fill_59 : decode prog_9_method_5_code 59 = .ok (.putfield 49, 3) := by decide +kernel
theorem d_Mo_fill_62 : decode prog_9_method_5_code 62 = .ok (.iinc 3 1, 3) := by decide +kernel
theorem d_Mo_fill_65 : decode prog_9_method_5_code 65 = .ok (.goto (-32), 3) := by decide +kernel
theorem d_Mo_fill_68 : decode prog_9_method_5_code 68 = .ok (.iconst 1, 1) := by decide +kernel
theorem d_Mo_fill_69 : decode prog_9_method_5_code 69 = .ok (.ireturn, 1) := by decide +kernel
theorem d_Mo_append_0 : decode prog_9_method_9_code 0 = .ok (.aload_n 0, 1) := by decide +kernel
theorem d_Mo_append_1 : decode prog_9_method_9_code 1 = .ok (.iconst 0, 1) := by decide +kernel
theorem d_Mo_append_2 : decode prog_9_method_9_code 2 = .ok (.putfield 46, 3) := by decide +kernel
theorem d_Mo_append_5 : decode prog_9_method_9_code 5 = .ok (.iload_n 1, 1) := by decide +kernel
theorem d_Mo_append_6 : decode prog_9_method_9_code 6 = .ok (.iconst 1, 1) := by decide +kernel
theorem d_Mo_append_7 : decode prog_9_method_9_code 7 = .ok (.if_icmp .lt 9, 3) := by decide +kernel
theorem d_Mo_append_10 : decode prog_9_method_9_code 10 = .ok (.iload_n 1, 1) := by decide +kernel
theorem d_Mo_append_11 : decode prog_9_method_9_code 11 = .ok (.bipush 14, 2) := by decide +kernel
theorem d_Mo_append_13 : decode prog_9_method_9_code 13 = .ok (.if_icmp .le 9, 3) := by decide +kernel
theorem d_Mo_append_16 : decode prog_9_method_9_code 16 = .ok (.aload_n 0, 1) := by decide +kernel
theorem d_Mo_append_17 : decode prog_9_method_9_code 17 = .ok (.iconst 1, 1) := by decide +kernel
theorem d_Mo_append_18 : decode prog_9_method_9_code 18 = .ok (.invokevirtual 72, 3) := by decide +kernel
theorem d_Mo_append_21 : decode prog_9_method_9_code 21 = .ok (.ireturn, 1) := by decide +kernel
theorem d_Mo_append_22 : decode prog_9_method_9_code 22 = .ok (.aload_n 0, 1) := by decide +kernel
theorem d_Mo_append_23 : decode prog_9_method_9_code 23 = .ok (.aload_n 0, 1) := by decide +kernel
theorem d_Mo_append_24 : decode prog_9_method_9_code 24 = .ok (.getfield 49, 3) := by decide +kernel
theorem d_Mo_append_27 : decode prog_9_method_9_code 27 = .ok (.invokevirtual 76, 3) := by decide +kernel
theorem d_Mo_append_30 : decode prog_9_method_9_code 30 = .ok (.ifCond .eq 9, 3) := by decide +kernel
theorem d_Mo_append_33 : decode prog_9_method_9_code 33 = .ok (.aload_n 0, 1) := by decide +kernel
theorem d_Mo_append_34 : decode prog_9_method_9_code 34 = .ok (.iconst 2, 1) := by decide +kernel
theorem d_Mo_append_35 : decode prog_9_method_9_code 35 = .ok (.invokevirtual 72, 3) := by decide +kernel
theorem d_Mo_append_38 : decode prog_9_method_9_code 38 = .ok (.ireturn, 1) := by decide +kernel
theorem d_Mo_append_39 : decode prog_9_method_9_code 39 = .ok (.aload_n 0, 1) := by decide +kernel
theorem d_Mo_append_40 : decode prog_9_method_9_code 40 = .ok (.iload_n 1, 1) := by decide +kernel
theorem d_Mo_append_41 : decode prog_9_method_9_code 41 = .ok (.aload_n 0, 1) := by decide +kernel
theorem d_Mo_append_42 : decode prog_9_method_9_code 42 = .ok (.getfield 49, 3) := by decide +kernel
theorem d_Mo_append_45 : decode prog_9_method_9_code 45 = .ok (.invokevirtual 80, 3) := by decide +kernel
theorem d_Mo_append_48 : decode prog_9_method_9_code 48 = .ok (.iconst 0, 1) := by decide +kernel
theorem d_Mo_append_49 : decode prog_9_method_9_code 49 = .ok (.istore_n 2, 1) := by decide +kernel
theorem d_Mo_append_50 : decode prog_9_method_9_code 50 = .ok (.iload_n 2, 1) := by decide +kernel
theorem d_Mo_append_51 : decode prog_9_method_9_code 51 = .ok (.aload_n 0, 1) := by decide +kernel
theorem d_Mo_append_52 : decode prog_9_method_9_code 52 = .ok (.getfield 49, 3) := by decide +kernel
theorem d_Mo_append_55 : decode prog_9_method_9_code 55 = .ok (.if_icmp .ge 34, 3) := by decide +kernel
theorem d_Mo_append_58 : decode prog_9_method_9_code 58 = .ok (.aload_n 0, 1) := by decide +kernel
theorem d_Mo_append_59 : decode prog_9_method_9_code 59 = .ok (.getfield 22, 3) := by decide +kernel
theorem d_Mo_append_62 : decode prog_9_method_9_code 62 = .ok (.aload_n 0, 1) := by decide +kernel
theorem d_Mo_append_63 : decode prog_9_method_9_code 63 = .ok (.getfield 13, 3) := by decide +kernel
theorem d_Mo_append_66 : decode prog_9_method_9_code 66 = .ok (.aload_n 0, 1) := by decide +kernel
theorem d_Mo_append_67 : decode prog_9_method_9_code 67 = .ok (.getfield 63, 3) := by decide +kernel
theorem d_Mo_append_70 : decode prog_9_method_9_code 70 = .ok (.iconst 1, 1) := by decide +kernel
theorem d_Mo_append_71 : decode prog_9_method_9_code 71 = .ok (.isub, 1) := by decide +kernel
theorem d_Mo_append_72 : decode prog_9_method_9_code 72 = .ok (.iaload, 1) := by decide +kernel
theorem d_Mo_append_73 : decode prog_9_method_9_code 73 = .ok (.iload_n 2, 1) := by decide +kernel
theorem d_Mo_append_74 : decode prog_9_method_9_code 74 = .ok (.iadd, 1) := by decide +kernel
theorem d_Mo_append_75 : decode prog_9_method_9_code 75 = .ok (.aload_n 0, 1) := by decide +kernel
theorem d_Mo_append_76 : decode prog_9_method_9_code 76 = .ok (.getfield 26, 3) := by decide +kernel
theorem d_Mo_append_79 : decode prog_9_method_9_code 79 = .ok (.iload_n 2, 1) := by decide +kernel
theorem d_Mo_append_80 : decode prog_9_method_9_code 80 = .ok (.iaload, 1) := by decide +kernel
theorem d_Mo_append_81 : decode prog_9_method_9_code 81 = .ok (.i2b, 1) := by decide +kernel
theorem d_Mo_append_82 : decode prog_9_method_9_code 82 = .ok (.bastore, 1) := by decide +kernel
theorem d_Mo_append_83 : decode prog_9_method_9_code 83 = .ok (.iinc 2 1, 3) := by decide +kernel
theorem d_Mo_append_86 : decode prog_9_method_9_code 86 = .ok (.goto (-36), 3) := by decide +kernel
theorem d_Mo_append_89 : decode prog_9_method_9_code 89 = .ok (.aload_n 0, 1) := by decide +kernel
theorem d_Mo_append_90 : decode prog_9_method_9_code 90 = .ok (.iconst 0, 1) := by decide +kernel
theorem d_Mo_append_91 : decode prog_9_method_9_code 91 = .ok (.putfield 49, 3) := by decide +kernel
theorem d_Mo_append_94 : decode prog_9_method_9_code 94 = .ok (.aload_n 0, 1) := by decide +kernel
theorem d_Mo_append_95 : decode prog_9_method_9_code 95 = .ok (.getfield 54, 3) := by decide +kernel
theorem d_Mo_append_98 : decode prog_9_method_9_code 98 = .ok (.ireturn, 1) := by decide +kernel
theorem d_Mo_fails_0 : decode prog_9_method_3_code 0 = .ok (.aload_n 0, 1) := by decide +kernel
theorem d_Mo_fails_1 : decode prog_9_method_3_code 1 = .ok (.iload_n 1, 1) := by decide +kernel
theorem d_Mo_fails_2 : decode prog_9_method_3_code 2 = .ok (.putfield 46, 3) := by decide +kernel
theorem d_Mo_fails_5 : decode prog_9_method_3_code 5 = .ok (.iconst 0, 1) := by decide +kernel
theorem d_Mo_fails_6 : decode prog_9_method_3_code 6 = .ok (.ireturn, 1) := by decide +kernel
theorem d_Mo_isFull_0 : decode prog_9_method_6_code 0 = .ok (.aload_n 0, 1) := by decide +kernel
theorem d_Mo_isFull_1 : decode prog_9_method_6_code 1 = .ok (.getfield 54, 3) := by decide +kernel
theorem d_Mo_isFull_4 : decode prog_9_method_6_code 4 = .ok (.iconst 3, 1) := by decide +kernel
theorem d_Mo_isFull_5 : decode prog_9_method_6_code 5 = .ok (.iadd, 1) := by decide +kernel
theorem d_Mo_isFull_6 : decode prog_9_method_6_code 6 = .ok (.iload_n 1, 1) := by decide +kernel
theorem d_Mo_isFull_7 : decode prog_9_method_6_code 7 = .ok (.iadd, 1) := by decide +kernel
theorem d_Mo_isFull_8 : decode prog_9_method_6_code 8 = .ok (.iconst 1, 1) := by decide +kernel
theorem d_Mo_isFull_9 : decode prog_9_method_6_code 9 = .ok (.isub, 1) := by decide +kernel
theorem d_Mo_isFull_10 : decode prog_9_method_6_code 10 = .ok (.sipush 500, 3) := by decide +kernel
theorem d_Mo_isFull_13 : decode prog_9_method_6_code 13 = .ok (.idiv, 1) := by decide +kernel
theorem d_Mo_isFull_14 : decode prog_9_method_6_code 14 = .ok (.aload_n 0, 1) := by decide +kernel
theorem d_Mo_isFull_15 : decode prog_9_method_6_code 15 = .ok (.getfield 57, 3) := by decide +kernel
theorem d_Mo_isFull_18 : decode prog_9_method_6_code 18 = .ok (.sipush 500, 3) := by decide +kernel
theorem d_Mo_isFull_21 : decode prog_9_method_6_code 21 = .ok (.idiv, 1) := by decide +kernel
theorem d_Mo_isFull_22 : decode prog_9_method_6_code 22 = .ok (.isub, 1) := by decide +kernel
theorem d_Mo_isFull_23 : decode prog_9_method_6_code 23 = .ok (.aload_n 0, 1) := by decide +kernel
theorem d_Mo_isFull_24 : decode prog_9_method_6_code 24 = .ok (.getfield 43, 3) := by decide +kernel
theorem d_Mo_isFull_27 : decode prog_9_method_6_code 27 = .ok (.if_icmp .lt 7, 3) := by decide +kernel
theorem d_Mo_isFull_30 : decode prog_9_method_6_code 30 = .ok (.iconst 1, 1) := by decide +kernel
theorem d_Mo_isFull_31 : decode prog_9_method_6_code 31 = .ok (.goto 4, 3) := by decide +kernel
theorem d_Mo_isFull_34 : decode prog_9_method_6_code 34 = .ok (.iconst 0, 1) := by decide +kernel
theorem d_Mo_isFull_35 : decode prog_9_method_6_code 35 = .ok (.ireturn, 1) := by decide +kernel
theorem d_Mo_record_0 : decode prog_9_method_8_code 0 = .ok (.aload_n 0, 1) := by decide +kernel
theorem d_Mo_record_1 : decode prog_9_method_8_code 1 = .ok (.getfield 63, 3) := by decide +kernel
theorem d_Mo_record_4 : decode prog_9_method_8_code 4 = .ok (.sipush 800, 3) := by decide +kernel
theorem d_Mo_record_7 : decode prog_9_method_8_code 7 = .ok (.if_icmp .eq 15, 3) := by decide +kernel
theorem d_Mo_record_10 : decode prog_9_method_8_code 10 = .ok (.aload_n 0, 1) := by decide +kernel
theorem d_Mo_record_11 : decode prog_9_method_8_code 11 = .ok (.getfield 66, 3) := by decide +kernel
theorem d_Mo_record_14 : decode prog_9_method_8_code 14 = .ok (.iload_n 2, 1) := by decide +kernel
theorem d_Mo_record_15 : decode prog_9_method_8_code 15 = .ok (.iadd, 1) := by decide +kernel
theorem d_Mo_record_16 : decode prog_9_method_8_code 16 = .ok (.sipush 19000, 3) := by decide +kernel
theorem d_Mo_record_19 : decode prog_9_method_8_code 19 = .ok (.if_icmp .le 7, 3) := by decide +kernel
theorem d_Mo_record_22 : decode prog_9_method_8_code 22 = .ok (.aload_n 0, 1) := by decide +kernel
theorem d_Mo_record_23 : decode prog_9_method_8_code 23 = .ok (.invokevirtual 69, 3) := by decide +kernel
theorem d_Mo_record_26 : decode prog_9_method_8_code 26 = .ok (.aload_n 0, 1) := by decide +kernel
theorem d_Mo_record_27 : decode prog_9_method_8_code 27 = .ok (.getfield 7, 3) := by decide +kernel
theorem d_Mo_record_30 : decode prog_9_method_8_code 30 = .ok (.aload_n 0, 1) := by decide +kernel
theorem d_Mo_record_31 : decode prog_9_method_8_code 31 = .ok (.getfield 63, 3) := by decide +kernel
theorem d_Mo_record_34 : decode prog_9_method_8_code 34 = .ok (.iload_n 1, 1) := by decide +kernel
theorem d_Mo_record_35 : decode prog_9_method_8_code 35 = .ok (.iastore, 1) := by decide +kernel
theorem d_Mo_record_36 : decode prog_9_method_8_code 36 = .ok (.aload_n 0, 1) := by decide +kernel
theorem d_Mo_record_37 : decode prog_9_method_8_code 37 = .ok (.getfield 13, 3) := by decide +kernel
theorem d_Mo_record_40 : decode prog_9_method_8_code 40 = .ok (.aload_n 0, 1) := by decide +kernel
theorem d_Mo_record_41 : decode prog_9_method_8_code 41 = .ok (.getfield 63, 3) := by decide +kernel
theorem d_Mo_record_44 : decode prog_9_method_8_code 44 = .ok (.aload_n 0, 1) := by decide +kernel
theorem d_Mo_record_45 : decode prog_9_method_8_code 45 = .ok (.getfield 66, 3) := by decide +kernel
theorem d_Mo_record_48 : decode prog_9_method_8_code 48 = .ok (.iastore, 1) := by decide +kernel
theorem d_Mo_record_49 : decode prog_9_method_8_code 49 = .ok (.aload_n 0, 1) := by decide +kernel
theorem d_Mo_record_50 : decode prog_9_method_8_code 50 = .ok (.getfield 16, 3) := by decide +kernel
theorem d_Mo_record_53 : decode prog_9_method_8_code 53 = .ok (.aload_n 0, 1) := by decide +kernel
theorem d_Mo_record_54 : decode prog_9_method_8_code 54 = .ok (.getfield 63, 3) := by decide +kernel
theorem d_Mo_record_57 : decode prog_9_method_8_code 57 = .ok (.iload_n 2, 1) := by decide +kernel
theorem d_Mo_record_58 : decode prog_9_method_8_code 58 = .ok (.iastore, 1) := by decide +kernel
theorem d_Mo_record_59 : decode prog_9_method_8_code 59 = .ok (.aload_n 0, 1) := by decide +kernel
theorem d_Mo_record_60 : decode prog_9_method_8_code 60 = .ok (.dup, 1) := by decide +kernel
theorem d_Mo_record_61 : decode prog_9_method_8_code 61 = .ok (.getfield 54, 3) := by decide +kernel
theorem d_Mo_record_64 : decode prog_9_method_8_code 64 = .ok (.iconst 3, 1) := by decide +kernel
theorem d_Mo_record_65 : decode prog_9_method_8_code 65 = .ok (.iload_n 2, 1) := by decide +kernel
theorem d_Mo_record_66 : decode prog_9_method_8_code 66 = .ok (.iadd, 1) := by decide +kernel
theorem d_Mo_record_67 : decode prog_9_method_8_code 67 = .ok (.iadd, 1) := by decide +kernel
theorem d_Mo_record_68 : decode prog_9_method_8_code 68 = .ok (.putfield 54, 3) := by decide +kernel
theorem d_Mo_record_71 : decode prog_9_method_8_code 71 = .ok (.aload_n 0, 1) := by decide +kernel
theorem d_Mo_record_72 : decode prog_9_method_8_code 72 = .ok (.getfield 19, 3) := by decide +kernel
theorem d_Mo_record_75 : decode prog_9_method_8_code 75 = .ok (.aload_n 0, 1) := by decide +kernel
theorem d_Mo_record_76 : decode prog_9_method_8_code 76 = .ok (.getfield 63, 3) := by decide +kernel
theorem d_Mo_record_79 : decode prog_9_method_8_code 79 = .ok (.aload_n 0, 1) := by decide +kernel
theorem d_Mo_record_80 : decode prog_9_method_8_code 80 = .ok (.getfield 54, 3) := by decide +kernel
theorem d_Mo_record_83 : decode prog_9_method_8_code 83 = .ok (.iastore, 1) := by decide +kernel
theorem d_Mo_record_84 : decode prog_9_method_8_code 84 = .ok (.aload_n 0, 1) := by decide +kernel
theorem d_Mo_record_85 : decode prog_9_method_8_code 85 = .ok (.dup, 1) := by decide +kernel
theorem d_Mo_record_86 : decode prog_9_method_8_code 86 = .ok (.getfield 66, 3) := by decide +kernel
theorem d_Mo_record_89 : decode prog_9_method_8_code 89 = .ok (.iload_n 2, 1) := by decide +kernel
theorem d_Mo_record_90 : decode prog_9_method_8_code 90 = .ok (.iadd, 1) := by decide +kernel
theorem d_Mo_record_91 : decode prog_9_method_8_code 91 = .ok (.putfield 66, 3) := by decide +kernel
theorem d_Mo_record_94 : decode prog_9_method_8_code 94 = .ok (.aload_n 0, 1) := by decide +kernel
theorem d_Mo_record_95 : decode prog_9_method_8_code 95 = .ok (.dup, 1) := by decide +kernel
theorem d_Mo_record_96 : decode prog_9_method_8_code 96 = .ok (.getfield 63, 3) := by decide +kernel
theorem d_Mo_record_99 : decode prog_9_method_8_code 99 = .ok (.iconst 1, 1) := by decide +kernel
theorem d_Mo_record_100 : decode prog_9_method_8_code 100 = .ok (.iadd, 1) := by decide +kernel
theorem d_Mo_record_101 : decode prog_9_method_8_code 101 = .ok (.putfield 63, 3) := by decide +kernel
theorem d_Mo_record_104 : decode prog_9_method_8_code 104 = .ok (.return_, 1) := by decide +kernel
theorem d_Mo_shrink_0 : decode prog_9_method_7_code 0 = .ok (.iconst 0, 1) := by decide +kernel
theorem d_Mo_shrink_1 : decode prog_9_method_7_code 1 = .ok (.istore_n 1, 1) := by decide +kernel
theorem d_Mo_shrink_2 : decode prog_9_method_7_code 2 = .ok (.iconst 0, 1) := by decide +kernel
theorem d_Mo_shrink_3 : decode prog_9_method_7_code 3 = .ok (.istore_n 2, 1) := by decide +kernel
theorem d_Mo_shrink_4 : decode prog_9_method_7_code 4 = .ok (.aload_n 0, 1) := by decide +kernel
theorem d_Mo_shrink_5 : decode prog_9_method_7_code 5 = .ok (.getfield 60, 3) := by decide +kernel
theorem d_Mo_shrink_8 : decode prog_9_method_7_code 8 = .ok (.istore_n 3, 1) := by decide +kernel
theorem d_Mo_shrink_9 : decode prog_9_method_7_code 9 = .ok (.iload_n 3, 1) := by decide +kernel
theorem d_Mo_shrink_10 : decode prog_9_method_7_code 10 = .ok (.aload_n 0, 1) := by decide +kernel
theorem d_Mo_shrink_11 : decode prog_9_method_7_code 11 = .ok (.getfield 63, 3) := by decide +kernel
theorem d_Mo_shrink_14 : decode prog_9_method_7_code 14 = .ok (.if_icmp .ge 107, 3) := by decide +kernel
theorem d_Mo_shrink_17 : decode prog_9_method_7_code 17 = .ok (.iconst 0, 1) := by decide +kernel
theorem d_Mo_shrink_18 : decode prog_9_method_7_code 18 = .ok (.istore 4, 2) := by decide +kernel
theorem d_Mo_shrink_20 : decode prog_9_method_7_code 20 = .ok (.iload 4, 2) := by decide +kernel
theorem d_Mo_shrink_22 : decode prog_9_method_7_code 22 = .ok (.aload_n 0, 1) := by decide +kernel
theorem d_Mo_shrink_23 : decode prog_9_method_7_code 23 = .ok (.getfield 16, 3) := by decide +kernel
theorem d_Mo_shrink_26 : decode prog_9_method_7_code 26 = .ok (.iload_n 3, 1) := by decide +kernel
theorem d_Mo_shrink_27 : decode prog_9_method_7_code 27 = .ok (.iaload, 1) := by decide +kernel
theorem d_Mo_shrink_28 : decode prog_9_method_7_code 28 = .ok (.if_icmp .ge 32, 3) := by decide +kernel
theorem d_Mo_shrink_31 : decode prog_9_method_7_code 31 = .ok (.aload_n 0, 1) := by decide +kernel
theorem d_Mo_shrink_32 : decode prog_9_method_7_code 32 = .ok (.getfield 22, 3) := by decide +kernel
theorem d_Mo_shrink_35 : decode prog_9_method_7_code 35 = .ok (.iload_n 1, 1) := by decide +kernel
theorem d_Mo_shrink_36 : decode prog_9_method_7_code 36 = .ok (.iload 4, 2) := by decide +kernel
theorem d_Mo_shrink_38 : decode prog_9_method_7_code 38 = .ok (.iadd, 1) := by decide +kernel
theorem d_Mo_shrink_39 : decode prog_9_method_7_code 39 = .ok (.aload_n 0, 1) := by decide +kernel
theorem d_Mo_shrink_40 : decode prog_9_method_7_code 40 = .ok (.getfield 22, 3) := by decide +kernel
theorem d_Mo_shrink_43 : decode prog_9_method_7_code 43 = .ok (.aload_n 0, 1) := by decide +kernel
theorem d_Mo_shrink_44 : decode prog_9_method_7_code 44 = .ok (.getfield 13, 3) := by decide +kernel
theorem d_Mo_shrink_47 : decode prog_9_method_7_code 47 = .ok (.iload_n 3, 1) := by decide +kernel
theorem d_Mo_shrink_48 : decode prog_9_method_7_code 48 = .ok (.iaload, 1) := by decide +kernel
theorem d_Mo_shrink_49 : decode prog_9_method_7_code 49 = .ok (.iload 4, 2) := by decide +kernel
theorem d_Mo_shrink_51 : decode prog_9_method_7_code 51 = .ok (.iadd, 1) := by decide +kernel
theorem d_Mo_shrink_52 : decode prog_9_method_7_code 52 = .ok (.baload, 1) := by decide +kernel
theorem d_Mo_shrink_53 : decode prog_9_method_7_code 53 = .ok (.bastore, 1) := by decide +kernel
theorem d_Mo_shrink_54 : decode prog_9_method_7_code 54 = .ok (.iinc 4 1, 3) := by decide +kernel
theorem d_Mo_shrink_57 : decode prog_9_method_7_code 57 = .ok (.goto (-37), 3) := by decide +kernel
theorem d_Mo_shrink_60 : decode prog_9_method_7_code 60 = .ok (.aload_n 0, 1) := by decide +kernel
theorem d_Mo_shrink_61 : decode prog_9_method_7_code 61 = .ok (.getfield 7, 3) := by decide +kernel
theorem d_Mo_shrink_64 : decode prog_9_method_7_code 64 = .ok (.iload_n 2, 1) := by decide +kernel
theorem d_Mo_shrink_65 : decode prog_9_method_7_code 65 = .ok (.aload_n 0, 1) := by decide +kernel
theorem d_Mo_shrink_66 : decode prog_9_method_7_code 66 = .ok (.getfield 7, 3) := by decide +kernel
theorem d_Mo_shrink_69 : decode prog_9_method_7_code 69 = .ok (.iload_n 3, 1) := by decide +kernel
theorem d_Mo_shrink_70 : decode prog_9_method_7_code 70 = .ok (.iaload, 1) := by decide +kernel
theorem d_Mo_shrink_71 : decode prog_9_method_7_code 71 = .ok (.iastore, 1) := by decide +kernel
theorem d_Mo_shrink_72 : decode prog_9_method_7_code 72 = .ok (.aload_n 0, 1) := by decide +kernel
theorem d_Mo_shrink_73 : decode prog_9_method_7_code 73 = .ok (.getfield 13, 3) := by decide +kernel
theorem d_Mo_shrink_76 : decode prog_9_method_7_code 76 = .ok (.iload_n 2, 1) := by decide +kernel
theorem d_Mo_shrink_77 : decode prog_9_method_7_code 77 = .ok (.iload_n 1, 1) := by decide +kernel
theorem d_Mo_shrink_78 : decode prog_9_method_7_code 78 = .ok (.iastore, 1) := by decide +kernel
theorem d_Mo_shrink_79 : decode prog_9_method_7_code 79 = .ok (.aload_n 0, 1) := by decide +kernel
theorem d_Mo_shrink_80 : decode prog_9_method_7_code 80 = .ok (.getfield 16, 3) := by decide +kernel
theorem d_Mo_shrink_83 : decode prog_9_method_7_code 83 = .ok (.iload_n 2, 1) := by decide +kernel
theorem d_Mo_shrink_84 : decode prog_9_method_7_code 84 = .ok (.aload_n 0, 1) := by decide +kernel
theorem d_Mo_shrink_85 : decode prog_9_method_7_code 85 = .ok (.getfield 16, 3) := by decide +kernel
theorem d_Mo_shrink_88 : decode prog_9_method_7_code 88 = .ok (.iload_n 3, 1) := by decide +kernel
theorem d_Mo_shrink_89 : decode prog_9_method_7_code 89 = .ok (.iaload, 1) := by decide +kernel
theorem d_Mo_shrink_90 : decode prog_9_method_7_code 90 = .ok (.iastore, 1) := by decide +kernel
theorem d_Mo_shrink_91 : decode prog_9_method_7_code 91 = .ok (.aload_n 0, 1) := by decide +kernel
theorem d_Mo_shrink_92 : decode prog_9_method_7_code 92 = .ok (.getfield 19, 3) := by decide +kernel
theorem d_Mo_shrink_95 : decode prog_9_method_7_code 95 = .ok (.iload_n 2, 1) := by decide +kernel
theorem d_Mo_shrink_96 : decode prog_9_method_7_code 96 = .ok (.aload_n 0, 1) := by decide +kernel
theorem d_Mo_shrink_97 : decode prog_9_method_7_code 97 = .ok (.getfield 19, 3) := by decide +kernel
theorem d_Mo_shrink_100 : decode prog_9_method_7_code 100 = .ok (.iload_n 3, 1) := by decide +kernel
theorem d_Mo_shrink_101 : decode prog_9_method_7_code 101 = .ok (.iaload, 1) := by decide +kernel
theorem d_Mo_shrink_102 : decode prog_9_method_7_code 102 = .ok (.iastore, 1) := by decide +kernel
theorem d_Mo_shrink_103 : decode prog_9_method_7_code 103 = .ok (.iload_n 1, 1) := by decide +kernel
theorem d_Mo_shrink_104 : decode prog_9_method_7_code 104 = .ok (.aload_n 0, 1) := by decide +kernel
theorem d_Mo_shrink_105 : decode prog_9_method_7_code 105 = .ok (.getfield 16, 3) := by decide +kernel
theorem d_Mo_shrink_108 : decode prog_9_method_7_code 108 = .ok (.iload_n 3, 1) := by decide +kernel
theorem d_Mo_shrink_109 : decode prog_9_method_7_code 109 = .ok (.iaload, 1) := by decide +kernel
theorem d_Mo_shrink_110 : decode prog_9_method_7_code 110 = .ok (.iadd, 1) := by decide +kernel
theorem d_Mo_shrink_111 : decode prog_9_method_7_code 111 = .ok (.istore_n 1, 1) := by decide +kernel
theorem d_Mo_shrink_112 : decode prog_9_method_7_code 112 = .ok (.iinc 2 1, 3) := by decide +kernel
theorem d_Mo_shrink_115 : decode prog_9_method_7_code 115 = .ok (.iinc 3 1, 3) := by decide +kernel
theorem d_Mo_shrink_118 : decode prog_9_method_7_code 118 = .ok (.goto (-109), 3) := by decide +kernel
theorem d_Mo_shrink_121 : decode prog_9_method_7_code 121 = .ok (.aload_n 0, 1) := by decide +kernel
theorem d_Mo_shrink_122 : decode prog_9_method_7_code 122 = .ok (.dup, 1) := by decide +kernel
theorem d_Mo_shrink_123 : decode prog_9_method_7_code 123 = .ok (.getfield 40, 3) := by decide +kernel
theorem d_Mo_shrink_126 : decode prog_9_method_7_code 126 = .ok (.aload_n 0, 1) := by decide +kernel
theorem d_Mo_shrink_127 : decode prog_9_method_7_code 127 = .ok (.getfield 60, 3) := by decide +kernel
theorem d_Mo_shrink_130 : decode prog_9_method_7_code 130 = .ok (.isub, 1) := by decide +kernel
theorem d_Mo_shrink_131 : decode prog_9_method_7_code 131 = .ok (.putfield 40, 3) := by decide +kernel
theorem d_Mo_shrink_134 : decode prog_9_method_7_code 134 = .ok (.aload_n 0, 1) := by decide +kernel
theorem d_Mo_shrink_135 : decode prog_9_method_7_code 135 = .ok (.iload_n 2, 1) := by decide +kernel
theorem d_Mo_shrink_136 : decode prog_9_method_7_code 136 = .ok (.putfield 63, 3) := by decide +kernel
theorem d_Mo_shrink_139 : decode prog_9_method_7_code 139 = .ok (.aload_n 0, 1) := by decide +kernel
theorem d_Mo_shrink_140 : decode prog_9_method_7_code 140 = .ok (.iload_n 1, 1) := by decide +kernel
theorem d_Mo_shrink_141 : decode prog_9_method_7_code 141 = .ok (.putfield 66, 3) := by decide +kernel
theorem d_Mo_shrink_144 : decode prog_9_method_7_code 144 = .ok (.aload_n 0, 1) := by decide +kernel
theorem d_Mo_shrink_145 : decode prog_9_method_7_code 145 = .ok (.iconst 0, 1) := by decide +kernel
theorem d_Mo_shrink_146 : decode prog_9_method_7_code 146 = .ok (.putfield 60, 3) := by decide +kernel
theorem d_Mo_shrink_149 : decode prog_9_method_7_code 149 = .ok (.return_, 1) := by decide +kernel
theorem d_Mo_commit_0 : decode prog_9_method_10_code 0 = .ok (.aload_n 0, 1) := by decide +kernel
theorem d_Mo_commit_1 : decode prog_9_method_10_code 1 = .ok (.iconst 0, 1) := by decide +kernel
theorem d_Mo_commit_2 : decode prog_9_method_10_code 2 = .ok (.putfield 46, 3) := by decide +kernel
theorem d_Mo_commit_5 : decode prog_9_method_10_code 5 = .ok (.iload_n 1, 1) := by decide +kernel
theorem d_Mo_commit_6 : decode prog_9_method_10_code 6 = .ok (.ifCond .lt 8, 3) := by decide +kernel
theorem d_Mo_commit_9 : decode prog_9_method_10_code 9 = .ok (.iload_n 1, 1) := by decide +kernel
theorem d_Mo_commit_10 : decode prog_9_method_10_code 10 = .ok (.iconst 5, 1) := by decide +kernel
theorem d_Mo_commit_11 : decode prog_9_method_10_code 11 = .ok (.if_icmp .le 9, 3) := by decide +kernel
theorem d_Mo_commit_14 : decode prog_9_method_10_code 14 = .ok (.aload_n 0, 1) := by decide +kernel
theorem d_Mo_commit_15 : decode prog_9_method_10_code 15 = .ok (.iconst 1, 1) := by decide +kernel
theorem d_Mo_commit_16 : decode prog_9_method_10_code 16 = .ok (.invokevirtual 72, 3) := by decide +kernel
theorem d_Mo_commit_19 : decode prog_9_method_10_code 19 = .ok (.ireturn, 1) := by decide +kernel
theorem d_Mo_commit_20 : decode prog_9_method_10_code 20 = .ok (.aload_n 0, 1) := by decide +kernel
theorem d_Mo_commit_21 : decode prog_9_method_10_code 21 = .ok (.getfield 33, 3) := by decide +kernel
theorem d_Mo_commit_24 : decode prog_9_method_10_code 24 = .ok (.iload_n 1, 1) := by decide +kernel
theorem d_Mo_commit_25 : decode prog_9_method_10_code 25 = .ok (.iaload, 1) := by decide +kernel
theorem d_Mo_commit_26 : decode prog_9_method_10_code 26 = .ok (.ifCond .ge 11, 3) := by decide +kernel
theorem d_Mo_commit_29 : decode prog_9_method_10_code 29 = .ok (.aload_n 0, 1) := by decide +kernel
theorem d_Mo_commit_30 : decode prog_9_method_10_code 30 = .ok (.iconst 1, 1) := by decide +kernel
theorem d_Mo_commit_31 : decode prog_9_method_10_code 31 = .ok (.invokevirtual 76, 3) := by decide +kernel
theorem d_Mo_commit_34 : decode prog_9_method_10_code 34 = .ok (.ifCond .eq 9, 3) := by decide +kernel
theorem d_Mo_commit_37 : decode prog_9_method_10_code 37 = .ok (.aload_n 0, 1) := by decide +kernel
theorem d_Mo_commit_38 : decode prog_9_method_10_code 38 = .ok (.iconst 2, 1) := by decide +kernel
theorem d_Mo_commit_39 : decode prog_9_method_10_code 39 = .ok (.invokevirtual 72, 3) := by decide +kernel
theorem d_Mo_commit_42 : decode prog_9_method_10_code 42 = .ok (.ireturn, 1) := by decide +kernel
theorem d_Mo_commit_43 : decode prog_9_method_10_code 43 = .ok (.aload_n 0, 1) := by decide +kernel
theorem d_Mo_commit_44 : decode prog_9_method_10_code 44 = .ok (.bipush 15, 2) := by decide +kernel
theorem d_Mo_commit_46 : decode prog_9_method_10_code 46 = .ok (.iconst 1, 1) := by decide +kernel
theorem d_Mo_commit_47 : decode prog_9_method_10_code 47 = .ok (.invokevirtual 80, 3) := by decide +kernel
theorem d_Mo_commit_50 : decode prog_9_method_10_code 50 = .ok (.aload_n 0, 1) := by decide +kernel
theorem d_Mo_commit_51 : decode prog_9_method_10_code 51 = .ok (.getfield 22, 3) := by decide +kernel
theorem d_Mo_commit_54 : decode prog_9_method_10_code 54 = .ok (.aload_n 0, 1) := by decide +kernel
theorem d_Mo_commit_55 : decode prog_9_method_10_code 55 = .ok (.getfield 13, 3) := by decide +kernel
theorem d_Mo_commit_58 : decode prog_9_method_10_code 58 = .ok (.aload_n 0, 1) := by decide +kernel
theorem d_Mo_commit_59 : decode prog_9_method_10_code 59 = .ok (.getfield 63, 3) := by decide +kernel
theorem d_Mo_commit_62 : decode prog_9_method_10_code 62 = .ok (.iconst 1, 1) := by decide +kernel
theorem d_Mo_commit_63 : decode prog_9_method_10_code 63 = .ok (.isub, 1) := by decide +kernel
theorem d_Mo_commit_64 : decode prog_9_method_10_code 64 = .ok (.iaload, 1) := by decide +kernel
theorem d_Mo_commit_65 : decode prog_9_method_10_code 65 = .ok (.iload_n 1, 1) := by decide +kernel
theorem d_Mo_commit_66 : decode prog_9_method_10_code 66 = .ok (.i2b, 1) := by decide +kernel
theorem d_Mo_commit_67 : decode prog_9_method_10_code 67 = .ok (.bastore, 1) := by decide +kernel
theorem d_Mo_commit_68 : decode prog_9_method_10_code 68 = .ok (.aload_n 0, 1) := by decide +kernel
theorem d_Mo_commit_69 : decode prog_9_method_10_code 69 = .ok (.getfield 33, 3) := by decide +kernel
theorem d_Mo_commit_72 : decode prog_9_method_10_code 72 = .ok (.iload_n 1, 1) := by decide +kernel
theorem d_Mo_commit_73 : decode prog_9_method_10_code 73 = .ok (.aload_n 0, 1) := by decide +kernel
theorem d_Mo_commit_74 : decode prog_9_method_10_code 74 = .ok (.getfield 54, 3) := by decide +kernel
theorem d_Mo_commit_77 : decode prog_9_method_10_code 77 = .ok (.iastore, 1) := by decide +kernel
theorem d_Mo_commit_78 : decode prog_9_method_10_code 78 = .ok (.aload_n 0, 1) := by decide +kernel
theorem d_Mo_commit_79 : decode prog_9_method_10_code 79 = .ok (.getfield 54, 3) := by decide +kernel
theorem d_Mo_commit_82 : decode prog_9_method_10_code 82 = .ok (.ireturn, 1) := by decide +kernel
theorem d_Mo_flush_0 : decode prog_9_method_12_code 0 = .ok (.aload_n 0, 1) := by decide +kernel
theorem d_Mo_flush_1 : decode prog_9_method_12_code 1 = .ok (.iconst 0, 1) := by decide +kernel
theorem d_Mo_flush_2 : decode prog_9_method_12_code 2 = .ok (.putfield 46, 3) := by decide +kernel
theorem d_Mo_flush_5 : decode prog_9_method_12_code 5 = .ok (.iload_n 1, 1) := by decide +kernel
theorem d_Mo_flush_6 : decode prog_9_method_12_code 6 = .ok (.ifCond .lt 11, 3) := by decide +kernel
theorem d_Mo_flush_9 : decode prog_9_method_12_code 9 = .ok (.iload_n 1, 1) := by decide +kernel
theorem d_Mo_flush_10 : decode prog_9_method_12_code 10 = .ok (.aload_n 0, 1) := by decide +kernel
theorem d_Mo_flush_11 : decode prog_9_method_12_code 11 = .ok (.getfield 54, 3) := by decide +kernel
theorem d_Mo_flush_14 : decode prog_9_method_12_code 14 = .ok (.if_icmp .le 9, 3) := by decide +kernel
theorem d_Mo_flush_17 : decode prog_9_method_12_code 17 = .ok (.aload_n 0, 1) := by decide +kernel
theorem d_Mo_flush_18 : decode prog_9_method_12_code 18 = .ok (.iconst 1, 1) := by decide +kernel
theorem d_Mo_flush_19 : decode prog_9_method_12_code 19 = .ok (.invokevirtual 72, 3) := by decide +kernel
theorem d_Mo_flush_22 : decode prog_9_method_12_code 22 = .ok (.ireturn, 1) := by decide +kernel
theorem d_Mo_flush_23 : decode prog_9_method_12_code 23 = .ok (.iconst 0, 1) := by decide +kernel
theorem d_Mo_flush_24 : decode prog_9_method_12_code 24 = .ok (.istore_n 2, 1) := by decide +kernel
theorem d_Mo_flush_25 : decode prog_9_method_12_code 25 = .ok (.aload_n 0, 1) := by decide +kernel
theorem d_Mo_flush_26 : decode prog_9_method_12_code 26 = .ok (.getfield 91, 3) := by decide +kernel
theorem d_Mo_flush_29 : decode prog_9_method_12_code 29 = .ok (.iload_n 1, 1) := by decide +kernel
theorem d_Mo_flush_30 : decode prog_9_method_12_code 30 = .ok (.if_icmp .ge 63, 3) := by decide +kernel
theorem d_Mo_flush_33 : decode prog_9_method_12_code 33 = .ok (.aload_n 0, 1) := by decide +kernel
theorem d_Mo_flush_34 : decode prog_9_method_12_code 34 = .ok (.getfield 91, 3) := by decide +kernel
theorem d_Mo_flush_37 : decode prog_9_method_12_code 37 = .ok (.sipush 500, 3) := by decide +kernel
theorem d_Mo_flush_40 : decode prog_9_method_12_code 40 = .ok (.idiv, 1) := by decide +kernel
theorem d_Mo_flush_41 : decode prog_9_method_12_code 41 = .ok (.istore_n 3, 1) := by decide +kernel
theorem d_Mo_flush_42 : decode prog_9_method_12_code 42 = .ok (.aload_n 0, 1) := by decide +kernel
theorem d_Mo_flush_43 : decode prog_9_method_12_code 43 = .ok (.invokevirtual 94, 3) := by decide +kernel
theorem d_Mo_flush_46 : decode prog_9_method_12_code 46 = .ok (.ifCond .ne 9, 3) := by decide +kernel
theorem d_Mo_flush_49 : decode prog_9_method_12_code 49 = .ok (.aload_n 0, 1) := by decide +kernel
theorem d_Mo_flush_50 : decode prog_9_method_12_code 50 = .ok (.iconst 2, 1) := by decide +kernel
theorem d_Mo_flush_51 : decode prog_9_method_12_code 51 = .ok (.invokevirtual 72, 3) := by decide +kernel
theorem d_Mo_flush_54 : decode prog_9_method_12_code 54 = .ok (.ireturn, 1) := by decide +kernel
theorem d_Mo_flush_55 : decode prog_9_method_12_code 55 = .ok (.aload_n 0, 1) := by decide +kernel
theorem d_Mo_flush_56 : decode prog_9_method_12_code 56 = .ok (.sipush 500, 3) := by decide +kernel
theorem d_Mo_flush_59 : decode prog_9_method_12_code 59 = .ok (.iload_n 3, 1) := by decide +kernel
theorem d_Mo_flush_60 : decode prog_9_method_12_code 60 = .ok (.iconst 1, 1) := by decide +kernel
theorem d_Mo_flush_61 : decode prog_9_method_12_code 61 = .ok (.iadd, 1) := by decide +kernel
theorem d_Mo_flush_62 : decode prog_9_method_12_code 62 = .ok (.imul, 1) := by decide +kernel
theorem d_Mo_flush_63 : decode prog_9_method_12_code 63 = .ok (.aload_n 0, 1) := by decide +kernel
theorem d_Mo_flush_64 : decode prog_9_method_12_code 64 = .ok (.getfield 54, 3) := by decide +kernel
theorem d_Mo_flush_67 : decode prog_9_method_12_code 67 = .ok (.if_icmp .ge 13, 3) := by decide +kernel
theorem d_Mo_flush_70 : decode prog_9_method_12_code 70 = .ok (.sipush 500, 3) := by decide +kernel
theorem d_Mo_flush_73 : decode prog_9_method_12_code 73 = .ok (.iload_n 3, 1) := by decide +kernel
theorem d_Mo_flush_74 : decode prog_9_method_12_code 74 = .ok (.iconst 1, 1) := by decide +kernel
theorem d_Mo_flush_75 : decode prog_9_method_12_code 75 = .ok (.iadd, 1) := by decide +kernel
theorem d_Mo_flush_76 : decode prog_9_method_12_code 76 = .ok (.imul, 1) := by decide +kernel
theorem d_Mo_flush_77 : decode prog_9_method_12_code 77 = .ok (.goto 7, 3) := by decide +kernel
theorem d_Mo_flush_80 : decode prog_9_method_12_code 80 = .ok (.aload_n 0, 1) := by decide +kernel
theorem d_Mo_flush_81 : decode prog_9_method_12_code 81 = .ok (.getfield 54, 3) := by decide +kernel
theorem d_Mo_flush_84 : decode prog_9_method_12_code 84 = .ok (.putfield 91, 3) := by decide +kernel
theorem d_Mo_flush_87 : decode prog_9_method_12_code 87 = .ok (.iinc 2 1, 3) := by decide +kernel
theorem d_Mo_flush_90 : decode prog_9_method_12_code 90 = .ok (.goto (-65), 3) := by decide +kernel
theorem d_Mo_flush_93 : decode prog_9_method_12_code 93 = .ok (.iload_n 2, 1) := by decide +kernel
theorem d_Mo_flush_94 : decode prog_9_method_12_code 94 = .ok (.ireturn, 1) := by decide +kernel
theorem d_Mo_writes_0 : decode prog_9_method_11_code 0 = .ok (.aload_n 0, 1) := by decide +kernel
theorem d_Mo_writes_1 : decode prog_9_method_11_code 1 = .ok (.getfield 29, 3) := by decide +kernel
theorem d_Mo_writes_4 : decode prog_9_method_11_code 4 = .ok (.ifCond .ne 15, 3) := by decide +kernel
theorem d_Mo_writes_7 : decode prog_9_method_11_code 7 = .ok (.aload_n 0, 1) := by decide +kernel
theorem d_Mo_writes_8 : decode prog_9_method_11_code 8 = .ok (.iconst (-1), 1) := by decide +kernel
theorem d_Mo_writes_9 : decode prog_9_method_11_code 9 = .ok (.putfield 29, 3) := by decide +kernel
theorem d_Mo_writes_12 : decode prog_9_method_11_code 12 = .ok (.aload_n 0, 1) := by decide +kernel
theorem d_Mo_writes_13 : decode prog_9_method_11_code 13 = .ok (.invokevirtual 84, 3) := by decide +kernel
theorem d_Mo_writes_16 : decode prog_9_method_11_code 16 = .ok (.pop, 1) := by decide +kernel
theorem d_Mo_writes_17 : decode prog_9_method_11_code 17 = .ok (.iconst 0, 1) := by decide +kernel
theorem d_Mo_writes_18 : decode prog_9_method_11_code 18 = .ok (.ireturn, 1) := by decide +kernel
theorem d_Mo_writes_19 : decode prog_9_method_11_code 19 = .ok (.aload_n 0, 1) := by decide +kernel
theorem d_Mo_writes_20 : decode prog_9_method_11_code 20 = .ok (.aload_n 0, 1) := by decide +kernel
theorem d_Mo_writes_21 : decode prog_9_method_11_code 21 = .ok (.getfield 29, 3) := by decide +kernel
theorem d_Mo_writes_24 : decode prog_9_method_11_code 24 = .ok (.ifCond .le 12, 3) := by decide +kernel
theorem d_Mo_writes_27 : decode prog_9_method_11_code 27 = .ok (.aload_n 0, 1) := by decide +kernel
theorem d_Mo_writes_28 : decode prog_9_method_11_code 28 = .ok (.getfield 29, 3) := by decide +kernel
theorem d_Mo_writes_31 : decode prog_9_method_11_code 31 = .ok (.iconst 1, 1) := by decide +kernel
theorem d_Mo_writes_32 : decode prog_9_method_11_code 32 = .ok (.isub, 1) := by decide +kernel
theorem d_Mo_writes_33 : decode prog_9_method_11_code 33 = .ok (.goto 7, 3) := by decide +kernel
theorem d_Mo_writes_36 : decode prog_9_method_11_code 36 = .ok (.aload_n 0, 1) := by decide +kernel
theorem d_Mo_writes_37 : decode prog_9_method_11_code 37 = .ok (.getfield 29, 3) := by decide +kernel
theorem d_Mo_writes_40 : decode prog_9_method_11_code 40 = .ok (.putfield 29, 3) := by decide +kernel
theorem d_Mo_writes_43 : decode prog_9_method_11_code 43 = .ok (.aload_n 0, 1) := by decide +kernel
theorem d_Mo_writes_44 : decode prog_9_method_11_code 44 = .ok (.dup, 1) := by decide +kernel
theorem d_Mo_writes_45 : decode prog_9_method_11_code 45 = .ok (.getfield 88, 3) := by decide +kernel
theorem d_Mo_writes_48 : decode prog_9_method_11_code 48 = .ok (.iconst 1, 1) := by decide +kernel
theorem d_Mo_writes_49 : decode prog_9_method_11_code 49 = .ok (.iadd, 1) := by decide +kernel
theorem d_Mo_writes_50 : decode prog_9_method_11_code 50 = .ok (.putfield 88, 3) := by decide +kernel
theorem d_Mo_writes_53 : decode prog_9_method_11_code 53 = .ok (.iconst 1, 1) := by decide +kernel
theorem d_Mo_writes_54 : decode prog_9_method_11_code 54 = .ok (.ireturn, 1) := by decide +kernel
theorem d_Mo_lose_0 : decode prog_9_method_18_code 0 = .ok (.aload_n 0, 1) := by decide +kernel
theorem d_Mo_lose_1 : decode prog_9_method_18_code 1 = .ok (.getfield 63, 3) := by decide +kernel
theorem d_Mo_lose_4 : decode prog_9_method_18_code 4 = .ok (.aload_n 0, 1) := by decide +kernel
theorem d_Mo_lose_5 : decode prog_9_method_18_code 5 = .ok (.getfield 60, 3) := by decide +kernel
theorem d_Mo_lose_8 : decode prog_9_method_18_code 8 = .ok (.if_icmp .le 52, 3) := by decide +kernel
theorem d_Mo_lose_11 : decode prog_9_method_18_code 11 = .ok (.aload_n 0, 1) := by decide +kernel
theorem d_Mo_lose_12 : decode prog_9_method_18_code 12 = .ok (.getfield 19, 3) := by decide +kernel
theorem d_Mo_lose_15 : decode prog_9_method_18_code 15 = .ok (.aload_n 0, 1) := by decide +kernel
theorem d_Mo_lose_16 : decode prog_9_method_18_code 16 = .ok (.getfield 63, 3) := by decide +kernel
theorem d_Mo_lose_19 : decode prog_9_method_18_code 19 = .ok (.iconst 1, 1) := by decide +kernel
theorem d_Mo_lose_20 : decode prog_9_method_18_code 20 = .ok (.isub, 1) := by decide +kernel
theorem d_Mo_lose_21 : decode prog_9_method_18_code 21 = .ok (.iaload, 1) := by decide +kernel
theorem d_Mo_lose_22 : decode prog_9_method_18_code 22 = .ok (.aload_n 0, 1) := by decide +kernel
theorem d_Mo_lose_23 : decode prog_9_method_18_code 23 = .ok (.getfield 91, 3) := by decide +kernel
theorem d_Mo_lose_26 : decode prog_9_method_18_code 26 = .ok (.if_icmp .le 34, 3) := by decide +kernel
theorem d_Mo_lose_29 : decode prog_9_method_18_code 29 = .ok (.aload_n 0, 1) := by decide +kernel
theorem d_Mo_lose_30 : decode prog_9_method_18_code 30 = .ok (.dup, 1) := by decide +kernel
theorem d_Mo_lose_31 : decode prog_9_method_18_code 31 = .ok (.getfield 63, 3) := by decide +kernel
theorem d_Mo_lose_34 : decode prog_9_method_18_code 34 = .ok (.iconst 1, 1) := by decide +kernel
theorem d_Mo_lose_35 : decode prog_9_method_18_code 35 = .ok (.isub, 1) := by decide +kernel
theorem d_Mo_lose_36 : decode prog_9_method_18_code 36 = .ok (.putfield 63, 3) := by decide +kernel
theorem d_Mo_lose_39 : decode prog_9_method_18_code 39 = .ok (.aload_n 0, 1) := by decide +kernel
theorem d_Mo_lose_40 : decode prog_9_method_18_code 40 = .ok (.dup, 1) := by decide +kernel
theorem d_Mo_lose_41 : decode prog_9_method_18_code 41 = .ok (.getfield 66, 3) := by decide +kernel
theorem d_Mo_lose_44 : decode prog_9_method_18_code 44 = .ok (.aload_n 0, 1) := by decide +kernel
theorem d_Mo_lose_45 : decode prog_9_method_18_code 45 = .ok (.getfield 16, 3) := by decide +kernel
theorem d_Mo_lose_48 : decode prog_9_method_18_code 48 = .ok (.aload_n 0, 1) := by decide +kernel
theorem d_Mo_lose_49 : decode prog_9_method_18_code 49 = .ok (.getfield 63, 3) := by decide +kernel
theorem d_Mo_lose_52 : decode prog_9_method_18_code 52 = .ok (.iaload, 1) := by decide +kernel
theorem d_Mo_lose_53 : decode prog_9_method_18_code 53 = .ok (.isub, 1) := by decide +kernel
theorem d_Mo_lose_54 : decode prog_9_method_18_code 54 = .ok (.putfield 66, 3) := by decide +kernel
theorem d_Mo_lose_57 : decode prog_9_method_18_code 57 = .ok (.goto (-57), 3) := by decide +kernel
theorem d_Mo_lose_60 : decode prog_9_method_18_code 60 = .ok (.aload_n 0, 1) := by decide +kernel
theorem d_Mo_lose_61 : decode prog_9_method_18_code 61 = .ok (.aload_n 0, 1) := by decide +kernel
theorem d_Mo_lose_62 : decode prog_9_method_18_code 62 = .ok (.getfield 63, 3) := by decide +kernel
theorem d_Mo_lose_65 : decode prog_9_method_18_code 65 = .ok (.aload_n 0, 1) := by decide +kernel
theorem d_Mo_lose_66 : decode prog_9_method_18_code 66 = .ok (.getfield 60, 3) := by decide +kernel
theorem d_Mo_lose_69 : decode prog_9_method_18_code 69 = .ok (.if_icmp .le 17, 3) := by decide +kernel
theorem d_Mo_lose_72 : decode prog_9_method_18_code 72 = .ok (.aload_n 0, 1) := by decide +kernel
theorem d_Mo_lose_73 : decode prog_9_method_18_code 73 = .ok (.getfield 19, 3) := by decide +kernel
theorem d_Mo_lose_76 : decode prog_9_method_18_code 76 = .ok (.aload_n 0, 1) := by decide +kernel
theorem d_Mo_lose_77 : decode prog_9_method_18_code 77 = .ok (.getfield 63, 3) := by decide +kernel
theorem d_Mo_lose_80 : decode prog_9_method_18_code 80 = .ok (.iconst 1, 1) := by decide +kernel
theorem d_Mo_lose_81 : decode prog_9_method_18_code 81 = .ok (.isub, 1) := by decide +kernel
theorem d_Mo_lose_82 : decode prog_9_method_18_code 82 = .ok (.iaload, 1) := by decide +kernel
theorem d_Mo_lose_83 : decode prog_9_method_18_code 83 = .ok (.goto 7, 3) := by decide +kernel
theorem d_Mo_lose_86 : decode prog_9_method_18_code 86 = .ok (.aload_n 0, 1) := by decide +kernel
theorem d_Mo_lose_87 : decode prog_9_method_18_code 87 = .ok (.getfield 57, 3) := by decide +kernel
theorem d_Mo_lose_90 : decode prog_9_method_18_code 90 = .ok (.putfield 54, 3) := by decide +kernel
theorem d_Mo_lose_93 : decode prog_9_method_18_code 93 = .ok (.aload_n 0, 1) := by decide +kernel
theorem d_Mo_lose_94 : decode prog_9_method_18_code 94 = .ok (.aload_n 0, 1) := by decide +kernel
theorem d_Mo_lose_95 : decode prog_9_method_18_code 95 = .ok (.getfield 54, 3) := by decide +kernel
theorem d_Mo_lose_98 : decode prog_9_method_18_code 98 = .ok (.putfield 91, 3) := by decide +kernel
theorem d_Mo_lose_101 : decode prog_9_method_18_code 101 = .ok (.aload_n 0, 1) := by decide +kernel
theorem d_Mo_lose_102 : decode prog_9_method_18_code 102 = .ok (.iconst 0, 1) := by decide +kernel
theorem d_Mo_lose_103 : decode prog_9_method_18_code 103 = .ok (.putfield 49, 3) := by decide +kernel
theorem d_Mo_lose_106 : decode prog_9_method_18_code 106 = .ok (.iconst 0, 1) := by decide +kernel
theorem d_Mo_lose_107 : decode prog_9_method_18_code 107 = .ok (.istore_n 1, 1) := by decide +kernel
theorem d_Mo_lose_108 : decode prog_9_method_18_code 108 = .ok (.iload_n 1, 1) := by decide +kernel
theorem d_Mo_lose_109 : decode prog_9_method_18_code 109 = .ok (.bipush 6, 2) := by decide +kernel
theorem d_Mo_lose_111 : decode prog_9_method_18_code 111 = .ok (.if_icmp .ge 16, 3) := by decide +kernel
theorem d_Mo_lose_114 : decode prog_9_method_18_code 114 = .ok (.aload_n 0, 1) := by decide +kernel
theorem d_Mo_lose_115 : decode prog_9_method_18_code 115 = .ok (.getfield 33, 3) := by decide +kernel
theorem d_Mo_lose_118 : decode prog_9_method_18_code 118 = .ok (.iload_n 1, 1) := by decide +kernel
theorem d_Mo_lose_119 : decode prog_9_method_18_code 119 = .ok (.iconst (-1), 1) := by decide +kernel
theorem d_Mo_lose_120 : decode prog_9_method_18_code 120 = .ok (.iastore, 1) := by decide +kernel
theorem d_Mo_lose_121 : decode prog_9_method_18_code 121 = .ok (.iinc 1 1, 3) := by decide +kernel
theorem d_Mo_lose_124 : decode prog_9_method_18_code 124 = .ok (.goto (-16), 3) := by decide +kernel
theorem d_Mo_lose_127 : decode prog_9_method_18_code 127 = .ok (.aload_n 0, 1) := by decide +kernel
theorem d_Mo_lose_128 : decode prog_9_method_18_code 128 = .ok (.invokevirtual 98, 3) := by decide +kernel
theorem d_Mo_lose_131 : decode prog_9_method_18_code 131 = .ok (.aload_n 0, 1) := by decide +kernel
theorem d_Mo_lose_132 : decode prog_9_method_18_code 132 = .ok (.aload_n 0, 1) := by decide +kernel
theorem d_Mo_lose_133 : decode prog_9_method_18_code 133 = .ok (.getfield 60, 3) := by decide +kernel
theorem d_Mo_lose_136 : decode prog_9_method_18_code 136 = .ok (.iconst 1, 1) := by decide +kernel
theorem d_Mo_lose_137 : decode prog_9_method_18_code 137 = .ok (.isub, 1) := by decide +kernel
theorem d_Mo_lose_138 : decode prog_9_method_18_code 138 = .ok (.putfield 40, 3) := by decide +kernel
theorem d_Mo_lose_141 : decode prog_9_method_18_code 141 = .ok (.aload_n 0, 1) := by decide +kernel
theorem d_Mo_lose_142 : decode prog_9_method_18_code 142 = .ok (.getfield 63, 3) := by decide +kernel
theorem d_Mo_lose_145 : decode prog_9_method_18_code 145 = .ok (.aload_n 0, 1) := by decide +kernel
theorem d_Mo_lose_146 : decode prog_9_method_18_code 146 = .ok (.getfield 60, 3) := by decide +kernel
theorem d_Mo_lose_149 : decode prog_9_method_18_code 149 = .ok (.isub, 1) := by decide +kernel
theorem d_Mo_lose_150 : decode prog_9_method_18_code 150 = .ok (.ireturn, 1) := by decide +kernel
theorem d_Mo_untouch_0 : decode prog_9_method_15_code 0 = .ok (.iconst 0, 1) := by decide +kernel
theorem d_Mo_untouch_1 : decode prog_9_method_15_code 1 = .ok (.istore_n 1, 1) := by decide +kernel
theorem d_Mo_untouch_2 : decode prog_9_method_15_code 2 = .ok (.iload_n 1, 1) := by decide +kernel
theorem d_Mo_untouch_3 : decode prog_9_method_15_code 3 = .ok (.sipush 2048, 3) := by decide +kernel
theorem d_Mo_untouch_6 : decode prog_9_method_15_code 6 = .ok (.if_icmp .ge 16, 3) := by decide +kernel
theorem d_Mo_untouch_9 : decode prog_9_method_15_code 9 = .ok (.aload_n 0, 1) := by decide +kernel
theorem d_Mo_untouch_10 : decode prog_9_method_15_code 10 = .ok (.getfield 36, 3) := by decide +kernel
theorem d_Mo_untouch_13 : decode prog_9_method_15_code 13 = .ok (.iload_n 1, 1) := by decide +kernel
theorem d_Mo_untouch_14 : decode prog_9_method_15_code 14 = .ok (.iconst 0, 1) := by decide +kernel
theorem d_Mo_untouch_15 : decode prog_9_method_15_code 15 = .ok (.bastore, 1) := by decide +kernel
theorem d_Mo_untouch_16 : decode prog_9_method_15_code 16 = .ok (.iinc 1 1, 3) := by decide +kernel
theorem d_Mo_untouch_19 : decode prog_9_method_15_code 19 = .ok (.goto (-17), 3) := by decide +kernel
theorem d_Mo_untouch_22 : decode prog_9_method_15_code 22 = .ok (.return_, 1) := by decide +kernel
theorem d_Mo_told_0 : decode prog_9_method_13_code 0 = .ok (.aload_n 0, 1) := by decide +kernel
theorem d_Mo_told_1 : decode prog_9_method_13_code 1 = .ok (.iconst 0, 1) := by decide +kernel
theorem d_Mo_told_2 : decode prog_9_method_13_code 2 = .ok (.putfield 46, 3) := by decide +kernel
theorem d_Mo_told_5 : decode prog_9_method_13_code 5 = .ok (.iconst (-1), 1) := by decide +kernel
theorem d_Mo_told_6 : decode prog_9_method_13_code 6 = .ok (.istore_n 1, 1) := by decide +kernel
theorem d_Mo_told_7 : decode prog_9_method_13_code 7 = .ok (.iconst 0, 1) := by decide +kernel
theorem d_Mo_told_8 : decode prog_9_method_13_code 8 = .ok (.istore_n 2, 1) := by decide +kernel
theorem d_Mo_told_9 : decode prog_9_method_13_code 9 = .ok (.iload_n 2, 1) := by decide +kernel
theorem d_Mo_told_10 : decode prog_9_method_13_code 10 = .ok (.bipush 6, 2) := by decide +kernel
theorem d_Mo_told_12 : decode prog_9_method_13_code 12 = .ok (.if_icmp .ge 43, 3) := by decide +kernel
theorem d_Mo_told_15 : decode prog_9_method_13_code 15 = .ok (.aload_n 0, 1) := by decide +kernel
theorem d_Mo_told_16 : decode prog_9_method_13_code 16 = .ok (.getfield 33, 3) := by decide +kernel
theorem d_Mo_told_19 : decode prog_9_method_13_code 19 = .ok (.iload_n 2, 1) := by decide +kernel
theorem d_Mo_told_20 : decode prog_9_method_13_code 20 = .ok (.iaload, 1) := by decide +kernel
theorem d_Mo_told_21 : decode prog_9_method_13_code 21 = .ok (.ifCond .lt 26, 3) := by decide +kernel
theorem d_Mo_told_24 : decode prog_9_method_13_code 24 = .ok (.iload_n 1, 1) := by decide +kernel
theorem d_Mo_told_25 : decode prog_9_method_13_code 25 = .ok (.ifCond .lt 18, 3) := by decide +kernel
theorem d_Mo_told_28 : decode prog_9_method_13_code 28 = .ok (.aload_n 0, 1) := by decide +kernel
theorem d_Mo_told_29 : decode prog_9_method_13_code 29 = .ok (.getfield 33, 3) := by decide +kernel
theorem d_Mo_told_32 : decode prog_9_method_13_code 32 = .ok (.iload_n 2, 1) := by decide +kernel
theorem d_Mo_told_33 : decode prog_9_method_13_code 33 = .ok (.iaload, 1) := by decide +kernel
theorem d_Mo_told_34 : decode prog_9_method_13_code 34 = .ok (.aload_n 0, 1) := by decide +kernel
theorem d_Mo_told_35 : decode prog_9_method_13_code 35 = .ok (.getfield 33, 3) := by decide +kernel
theorem d_Mo_told_38 : decode prog_9_method_13_code 38 = .ok (.iload_n 1, 1) := by decide +kernel
theorem d_Mo_told_39 : decode prog_9_method_13_code 39 = .ok (.iaload, 1) := by decide +kernel
theorem d_Mo_told_40 : decode prog_9_method_13_code 40 = .ok (.if_icmp .ge 7, 3) := by decide +kernel
theorem d_Mo_told_43 : decode prog_9_method_13_code 43 = .ok (.iload_n 2, 1) := by decide +kernel
theorem d_Mo_told_44 : decode prog_9_method_13_code 44 = .ok (.goto 4, 3) := by decide +kernel
theorem d_Mo_told_47 : decode prog_9_method_13_code 47 = .ok (.iload_n 1, 1) := by decide +kernel
theorem d_Mo_told_48 : decode prog_9_method_13_code 48 = .ok (.istore_n 1, 1) := by decide +kernel
theorem d_Mo_told_49 : decode prog_9_method_13_code 49 = .ok (.iinc 2 1, 3) := by decide +kernel
theorem d_Mo_told_52 : decode prog_9_method_13_code 52 = .ok (.goto (-43), 3) := by decide +kernel
theorem d_Mo_told_55 : decode prog_9_method_13_code 55 = .ok (.iload_n 1, 1) := by decide +kernel
theorem d_Mo_told_56 : decode prog_9_method_13_code 56 = .ok (.ifCond .lt 16, 3) := by decide +kernel
theorem d_Mo_told_59 : decode prog_9_method_13_code 59 = .ok (.aload_n 0, 1) := by decide +kernel
theorem d_Mo_told_60 : decode prog_9_method_13_code 60 = .ok (.getfield 33, 3) := by decide +kernel
theorem d_Mo_told_63 : decode prog_9_method_13_code 63 = .ok (.iload_n 1, 1) := by decide +kernel
theorem d_Mo_told_64 : decode prog_9_method_13_code 64 = .ok (.iaload, 1) := by decide +kernel
theorem d_Mo_told_65 : decode prog_9_method_13_code 65 = .ok (.aload_n 0, 1) := by decide +kernel
theorem d_Mo_told_66 : decode prog_9_method_13_code 66 = .ok (.getfield 91, 3) := by decide +kernel
theorem d_Mo_told_69 : decode prog_9_method_13_code 69 = .ok (.if_icmp .le 5, 3) := by decide +kernel
theorem d_Mo_told_72 : decode prog_9_method_13_code 72 = .ok (.iconst (-1), 1) := by decide +kernel
theorem d_Mo_told_73 : decode prog_9_method_13_code 73 = .ok (.ireturn, 1) := by decide +kernel
theorem d_Mo_told_74 : decode prog_9_method_13_code 74 = .ok (.aload_n 0, 1) := by decide +kernel
theorem d_Mo_told_75 : decode prog_9_method_13_code 75 = .ok (.getfield 33, 3) := by decide +kernel
theorem d_Mo_told_78 : decode prog_9_method_13_code 78 = .ok (.iload_n 1, 1) := by decide +kernel
theorem d_Mo_told_79 : decode prog_9_method_13_code 79 = .ok (.iconst (-1), 1) := by decide +kernel
theorem d_Mo_told_80 : decode prog_9_method_13_code 80 = .ok (.iastore, 1) := by decide +kernel
theorem d_Mo_told_81 : decode prog_9_method_13_code 81 = .ok (.iload_n 1, 1) := by decide +kernel
theorem d_Mo_told_82 : decode prog_9_method_13_code 82 = .ok (.ireturn, 1) := by decide +kernel
theorem d_Mo_touch_0 : decode prog_9_method_14_code 0 = .ok (.aload_n 0, 1) := by decide +kernel
theorem d_Mo_touch_1 : decode prog_9_method_14_code 1 = .ok (.iconst 0, 1) := by decide +kernel
theorem d_Mo_touch_2 : decode prog_9_method_14_code 2 = .ok (.putfield 46, 3) := by decide +kernel
theorem d_Mo_touch_5 : decode prog_9_method_14_code 5 = .ok (.iload_n 1, 1) := by decide +kernel
theorem d_Mo_touch_6 : decode prog_9_method_14_code 6 = .ok (.ifCond .lt 19, 3) := by decide +kernel
theorem d_Mo_touch_9 : decode prog_9_method_14_code 9 = .ok (.iload_n 1, 1) := by decide +kernel
theorem d_Mo_touch_10 : decode prog_9_method_14_code 10 = .ok (.sipush 2047, 3) := by decide +kernel
theorem d_Mo_touch_13 : decode prog_9_method_14_code 13 = .ok (.if_icmp .gt 12, 3) := by decide +kernel
theorem d_Mo_touch_16 : decode prog_9_method_14_code 16 = .ok (.aload_n 0, 1) := by decide +kernel
theorem d_Mo_touch_17 : decode prog_9_method_14_code 17 = .ok (.getfield 36, 3) := by decide +kernel
theorem d_Mo_touch_20 : decode prog_9_method_14_code 20 = .ok (.iload_n 1, 1) := by decide +kernel
theorem d_Mo_touch_21 : decode prog_9_method_14_code 21 = .ok (.baload, 1) := by decide +kernel
theorem d_Mo_touch_22 : decode prog_9_method_14_code 22 = .ok (.ifCond .eq 5, 3) := by decide +kernel
theorem d_Mo_touch_25 : decode prog_9_method_14_code 25 = .ok (.iconst 0, 1) := by decide +kernel
theorem d_Mo_touch_26 : decode prog_9_method_14_code 26 = .ok (.ireturn, 1) := by decide +kernel
theorem d_Mo_touch_27 : decode prog_9_method_14_code 27 = .ok (.aload_n 0, 1) := by decide +kernel
theorem d_Mo_touch_28 : decode prog_9_method_14_code 28 = .ok (.getfield 36, 3) := by decide +kernel
theorem d_Mo_touch_31 : decode prog_9_method_14_code 31 = .ok (.iload_n 1, 1) := by decide +kernel
theorem d_Mo_touch_32 : decode prog_9_method_14_code 32 = .ok (.iconst 1, 1) := by decide +kernel
theorem d_Mo_touch_33 : decode prog_9_method_14_code 33 = .ok (.bastore, 1) := by decide +kernel
theorem d_Mo_touch_34 : decode prog_9_method_14_code 34 = .ok (.iconst 1, 1) := by decide +kernel
theorem d_Mo_touch_35 : decode prog_9_method_14_code 35 = .ok (.ireturn, 1) := by decide +kernel
theorem d_Mo_mark_0 : decode prog_9_method_16_code 0 = .ok (.aload_n 0, 1) := by decide +kernel
theorem d_Mo_mark_1 : decode prog_9_method_16_code 1 = .ok (.iconst 0, 1) := by decide +kernel
theorem d_Mo_mark_2 : decode prog_9_method_16_code 2 = .ok (.putfield 46, 3) := by decide +kernel
theorem d_Mo_mark_5 : decode prog_9_method_16_code 5 = .ok (.aload_n 0, 1) := by decide +kernel
theorem d_Mo_mark_6 : decode prog_9_method_16_code 6 = .ok (.invokevirtual 98, 3) := by decide +kernel
theorem d_Mo_mark_9 : decode prog_9_method_16_code 9 = .ok (.aload_n 0, 1) := by decide +kernel
theorem d_Mo_mark_10 : decode prog_9_method_16_code 10 = .ok (.getfield 54, 3) := by decide +kernel
theorem d_Mo_mark_13 : decode prog_9_method_16_code 13 = .ok (.ireturn, 1) := by decide +kernel
theorem d_Mo_checkpoint_0 : decode prog_9_method_17_code 0 = .ok (.aload_n 0, 1) := by decide +kernel
theorem d_Mo_checkpoint_1 : decode prog_9_method_17_code 1 = .ok (.iconst 0, 1) := by decide +kernel
theorem d_Mo_checkpoint_2 : decode prog_9_method_17_code 2 = .ok (.putfield 46, 3) := by decide +kernel
theorem d_Mo_checkpoint_5 : decode prog_9_method_17_code 5 = .ok (.iload_n 1, 1) := by decide +kernel
theorem d_Mo_checkpoint_6 : decode prog_9_method_17_code 6 = .ok (.aload_n 0, 1) := by decide +kernel
theorem d_Mo_checkpoint_7 : decode prog_9_method_17_code 7 = .ok (.getfield 57, 3) := by decide +kernel
theorem d_Mo_checkpoint_10 : decode prog_9_method_17_code 10 = .ok (.if_icmp .ne 10, 3) := by decide +kernel
theorem d_Mo_checkpoint_13 : decode prog_9_method_17_code 13 = .ok (.aload_n 0, 1) := by decide +kernel
theorem d_Mo_checkpoint_14 : decode prog_9_method_17_code 14 = .ok (.getfield 60, 3) := by decide +kernel
theorem d_Mo_checkpoint_17 : decode prog_9_method_17_code 17 = .ok (.goto 4, 3) := by decide +kernel
theorem d_Mo_checkpoint_20 : decode prog_9_method_17_code 20 = .ok (.iconst (-1), 1) := by decide +kernel
theorem d_Mo_checkpoint_21 : decode prog_9_method_17_code 21 = .ok (.istore_n 2, 1) := by decide +kernel
theorem d_Mo_checkpoint_22 : decode prog_9_method_17_code 22 = .ok (.aload_n 0, 1) := by decide +kernel
theorem d_Mo_checkpoint_23 : decode prog_9_method_17_code 23 = .ok (.getfield 60, 3) := by decide +kernel
theorem d_Mo_checkpoint_26 : decode prog_9_method_17_code 26 = .ok (.istore_n 3, 1) := by decide +kernel
theorem d_Mo_checkpoint_27 : decode prog_9_method_17_code 27 = .ok (.iload_n 3, 1) := by decide +kernel
theorem d_Mo_checkpoint_28 : decode prog_9_method_17_code 28 = .ok (.aload_n 0, 1) := by decide +kernel
theorem d_Mo_checkpoint_29 : decode prog_9_method_17_code 29 = .ok (.getfield 63, 3) := by decide +kernel
theorem d_Mo_checkpoint_32 : decode prog_9_method_17_code 32 = .ok (.if_icmp .ge 27, 3) := by decide +kernel
theorem d_Mo_checkpoint_35 : decode prog_9_method_17_code 35 = .ok (.aload_n 0, 1) := by decide +kernel
theorem d_Mo_checkpoint_36 : decode prog_9_method_17_code 36 = .ok (.getfield 19, 3) := by decide +kernel
theorem d_Mo_checkpoint_39 : decode prog_9_method_17_code 39 = .ok (.iload_n 3, 1) := by decide +kernel
theorem d_Mo_checkpoint_40 : decode prog_9_method_17_code 40 = .ok (.iaload, 1) := by decide +kernel
theorem d_Mo_checkpoint_41 : decode prog_9_method_17_code 41 = .ok (.iload_n 1, 1) := by decide +kernel
theorem d_Mo_checkpoint_42 : decode prog_9_method_17_code 42 = .ok (.if_icmp .ne 9, 3) := by decide +kernel
theorem d_Mo_checkpoint_45 : decode prog_9_method_17_code 45 = .ok (.iload_n 3, 1) := by decide +kernel
theorem d_Mo_checkpoint_46 : decode prog_9_method_17_code 46 = .ok (.iconst 1, 1) := by decide +kernel
theorem d_Mo_checkpoint_47 : decode prog_9_method_17_code 47 = .ok (.iadd, 1) := by decide +kernel
theorem d_Mo_checkpoint_48 : decode prog_9_method_17_code 48 = .ok (.goto 4, 3) := by decide +kernel
theorem d_Mo_checkpoint_51 : decode prog_9_method_17_code 51 = .ok (.iload_n 2, 1) := by decide +kernel
theorem d_Mo_checkpoint_52 : decode prog_9_method_17_code 52 = .ok (.istore_n 2, 1) := by decide +kernel
theorem d_Mo_checkpoint_53 : decode prog_9_method_17_code 53 = .ok (.iinc 3 1, 3) := by decide +kernel
theorem d_Mo_checkpoint_56 : decode prog_9_method_17_code 56 = .ok (.goto (-29), 3) := by decide +kernel
theorem d_Mo_checkpoint_59 : decode prog_9_method_17_code 59 = .ok (.iload_n 2, 1) := by decide +kernel
theorem d_Mo_checkpoint_60 : decode prog_9_method_17_code 60 = .ok (.ifCond .lt 11, 3) := by decide +kernel
theorem d_Mo_checkpoint_63 : decode prog_9_method_17_code 63 = .ok (.iload_n 1, 1) := by decide +kernel
theorem d_Mo_checkpoint_64 : decode prog_9_method_17_code 64 = .ok (.aload_n 0, 1) := by decide +kernel
theorem d_Mo_checkpoint_65 : decode prog_9_method_17_code 65 = .ok (.getfield 91, 3) := by decide +kernel
theorem d_Mo_checkpoint_68 : decode prog_9_method_17_code 68 = .ok (.if_icmp .le 9, 3) := by decide +kernel
theorem d_Mo_checkpoint_71 : decode prog_9_method_17_code 71 = .ok (.aload_n 0, 1) := by decide +kernel
theorem d_Mo_checkpoint_72 : decode prog_9_method_17_code 72 = .ok (.iconst 1, 1) := by decide +kernel
theorem d_Mo_checkpoint_73 : decode prog_9_method_17_code 73 = .ok (.invokevirtual 72, 3) := by decide +kernel
theorem d_Mo_checkpoint_76 : decode prog_9_method_17_code 76 = .ok (.ireturn, 1) := by decide +kernel
theorem d_Mo_checkpoint_77 : decode prog_9_method_17_code 77 = .ok (.aload_n 0, 1) := by decide +kernel
theorem d_Mo_checkpoint_78 : decode prog_9_method_17_code 78 = .ok (.invokevirtual 94, 3) := by decide +kernel
theorem d_Mo_checkpoint_81 : decode prog_9_method_17_code 81 = .ok (.ifCond .ne 9, 3) := by decide +kernel
theorem d_Mo_checkpoint_84 : decode prog_9_method_17_code 84 = .ok (.aload_n 0, 1) := by decide +kernel
theorem d_Mo_checkpoint_85 : decode prog_9_method_17_code 85 = .ok (.iconst 2, 1) := by decide +kernel
theorem d_Mo_checkpoint_86 : decode prog_9_method_17_code 86 = .ok (.invokevirtual 72, 3) := by decide +kernel
theorem d_Mo_checkpoint_89 : decode prog_9_method_17_code 89 = .ok (.ireturn, 1) := by decide +kernel
theorem d_Mo_checkpoint_90 : decode prog_9_method_17_code 90 = .ok (.aload_n 0, 1) := by decide +kernel
theorem d_Mo_checkpoint_91 : decode prog_9_method_17_code 91 = .ok (.iload_n 1, 1) := by decide +kernel
theorem d_Mo_checkpoint_92 : decode prog_9_method_17_code 92 = .ok (.putfield 57, 3) := by decide +kernel
theorem d_Mo_checkpoint_95 : decode prog_9_method_17_code 95 = .ok (.aload_n 0, 1) := by decide +kernel
theorem d_Mo_checkpoint_96 : decode prog_9_method_17_code 96 = .ok (.iload_n 2, 1) := by decide +kernel
theorem d_Mo_checkpoint_97 : decode prog_9_method_17_code 97 = .ok (.putfield 60, 3) := by decide +kernel
theorem d_Mo_checkpoint_100 : decode prog_9_method_17_code 100 = .ok (.aload_n 0, 1) := by decide +kernel
theorem d_Mo_checkpoint_101 : decode prog_9_method_17_code 101 = .ok (.aload_n 0, 1) := by decide +kernel
theorem d_Mo_checkpoint_102 : decode prog_9_method_17_code 102 = .ok (.getfield 60, 3) := by decide +kernel
theorem d_Mo_checkpoint_105 : decode prog_9_method_17_code 105 = .ok (.iconst 1, 1) := by decide +kernel
theorem d_Mo_checkpoint_106 : decode prog_9_method_17_code 106 = .ok (.isub, 1) := by decide +kernel
theorem d_Mo_checkpoint_107 : decode prog_9_method_17_code 107 = .ok (.putfield 40, 3) := by decide +kernel
theorem d_Mo_checkpoint_110 : decode prog_9_method_17_code 110 = .ok (.aload_n 0, 1) := by decide +kernel
theorem d_Mo_checkpoint_111 : decode prog_9_method_17_code 111 = .ok (.getfield 43, 3) := by decide +kernel
theorem d_Mo_checkpoint_114 : decode prog_9_method_17_code 114 = .ok (.aload_n 0, 1) := by decide +kernel
theorem d_Mo_checkpoint_115 : decode prog_9_method_17_code 115 = .ok (.getfield 54, 3) := by decide +kernel
theorem d_Mo_checkpoint_118 : decode prog_9_method_17_code 118 = .ok (.sipush 500, 3) := by decide +kernel
theorem d_Mo_checkpoint_121 : decode prog_9_method_17_code 121 = .ok (.idiv, 1) := by decide +kernel
theorem d_Mo_checkpoint_122 : decode prog_9_method_17_code 122 = .ok (.aload_n 0, 1) := by decide +kernel
theorem d_Mo_checkpoint_123 : decode prog_9_method_17_code 123 = .ok (.getfield 57, 3) := by decide +kernel
theorem d_Mo_checkpoint_126 : decode prog_9_method_17_code 126 = .ok (.sipush 500, 3) := by decide +kernel
theorem d_Mo_checkpoint_129 : decode prog_9_method_17_code 129 = .ok (.idiv, 1) := by decide +kernel
theorem d_Mo_checkpoint_130 : decode prog_9_method_17_code 130 = .ok (.isub, 1) := by decide +kernel
theorem d_Mo_checkpoint_131 : decode prog_9_method_17_code 131 = .ok (.iconst 1, 1) := by decide +kernel
theorem d_Mo_checkpoint_132 : decode prog_9_method_17_code 132 = .ok (.iadd, 1) := by decide +kernel
theorem d_Mo_checkpoint_133 : decode prog_9_method_17_code 133 = .ok (.isub, 1) := by decide +kernel
theorem d_Mo_checkpoint_134 : decode prog_9_method_17_code 134 = .ok (.ireturn, 1) := by decide +kernel
theorem d_Mo_open_0 : decode prog_9_method_19_code 0 = .ok (.aload_n 0, 1) := by decide +kernel
theorem d_Mo_open_1 : decode prog_9_method_19_code 1 = .ok (.iconst 0, 1) := by decide +kernel
theorem d_Mo_open_2 : decode prog_9_method_19_code 2 = .ok (.putfield 46, 3) := by decide +kernel
theorem d_Mo_open_5 : decode prog_9_method_19_code 5 = .ok (.aload_n 0, 1) := by decide +kernel
theorem d_Mo_open_6 : decode prog_9_method_19_code 6 = .ok (.invokevirtual 84, 3) := by decide +kernel
theorem d_Mo_open_9 : decode prog_9_method_19_code 9 = .ok (.ireturn, 1) := by decide +kernel
theorem d_Mo_next_0 : decode prog_9_method_20_code 0 = .ok (.aload_n 0, 1) := by decide +kernel
theorem d_Mo_next_1 : decode prog_9_method_20_code 1 = .ok (.iconst 0, 1) := by decide +kernel
theorem d_Mo_next_2 : decode prog_9_method_20_code 2 = .ok (.putfield 46, 3) := by decide +kernel
theorem d_Mo_next_5 : decode prog_9_method_20_code 5 = .ok (.aload_n 0, 1) := by decide +kernel
theorem d_Mo_next_6 : decode prog_9_method_20_code 6 = .ok (.getfield 40, 3) := by decide +kernel
theorem d_Mo_next_9 : decode prog_9_method_20_code 9 = .ok (.iconst 1, 1) := by decide +kernel
theorem d_Mo_next_10 : decode prog_9_method_20_code 10 = .ok (.iadd, 1) := by decide +kernel
theorem d_Mo_next_11 : decode prog_9_method_20_code 11 = .ok (.aload_n 0, 1) := by decide +kernel
theorem d_Mo_next_12 : decode prog_9_method_20_code 12 = .ok (.getfield 63, 3) := by decide +kernel
theorem d_Mo_next_15 : decode prog_9_method_20_code 15 = .ok (.if_icmp .lt 9, 3) := by decide +kernel
theorem d_Mo_next_18 : decode prog_9_method_20_code 18 = .ok (.aload_n 0, 1) := by decide +kernel
theorem d_Mo_next_19 : decode prog_9_method_20_code 19 = .ok (.iconst 1, 1) := by decide +kernel
theorem d_Mo_next_20 : decode prog_9_method_20_code 20 = .ok (.invokevirtual 72, 3) := by decide +kernel
theorem d_Mo_next_23 : decode prog_9_method_20_code 23 = .ok (.ireturn, 1) := by decide +kernel
theorem d_Mo_next_24 : decode prog_9_method_20_code 24 = .ok (.aload_n 0, 1) := by decide +kernel
theorem d_Mo_next_25 : decode prog_9_method_20_code 25 = .ok (.dup, 1) := by decide +kernel
theorem d_Mo_next_26 : decode prog_9_method_20_code 26 = .ok (.getfield 40, 3) := by decide +kernel
theorem d_Mo_next_29 : decode prog_9_method_20_code 29 = .ok (.iconst 1, 1) := by decide +kernel
theorem d_Mo_next_30 : decode prog_9_method_20_code 30 = .ok (.iadd, 1) := by decide +kernel
theorem d_Mo_next_31 : decode prog_9_method_20_code 31 = .ok (.putfield 40, 3) := by decide +kernel
theorem d_Mo_next_34 : decode prog_9_method_20_code 34 = .ok (.aload_n 0, 1) := by decide +kernel
theorem d_Mo_next_35 : decode prog_9_method_20_code 35 = .ok (.getfield 7, 3) := by decide +kernel
theorem d_Mo_next_38 : decode prog_9_method_20_code 38 = .ok (.aload_n 0, 1) := by decide +kernel
theorem d_Mo_next_39 : decode prog_9_method_20_code 39 = .ok (.getfield 40, 3) := by decide +kernel
theorem d_Mo_next_42 : decode prog_9_method_20_code 42 = .ok (.iaload, 1) := by decide +kernel
theorem d_Mo_next_43 : decode prog_9_method_20_code 43 = .ok (.ireturn, 1) := by decide +kernel
theorem d_Mo_length_0 : decode prog_9_method_21_code 0 = .ok (.aload_n 0, 1) := by decide +kernel
theorem d_Mo_length_1 : decode prog_9_method_21_code 1 = .ok (.iconst 0, 1) := by decide +kernel
theorem d_Mo_length_2 : decode prog_9_method_21_code 2 = .ok (.putfield 46, 3) := by decide +kernel
theorem d_Mo_length_5 : decode prog_9_method_21_code 5 = .ok (.aload_n 0, 1) := by decide +kernel
theorem d_Mo_length_6 : decode prog_9_method_21_code 6 = .ok (.getfield 40, 3) := by decide +kernel
theorem d_Mo_length_9 : decode prog_9_method_21_code 9 = .ok (.aload_n 0, 1) := by decide +kernel
theorem d_Mo_length_10 : decode prog_9_method_21_code 10 = .ok (.getfield 60, 3) := by decide +kernel
theorem d_Mo_length_13 : decode prog_9_method_21_code 13 = .ok (.if_icmp .ge 7, 3) := by decide +kernel
theorem d_Mo_length_16 : decode prog_9_method_21_code 16 = .ok (.iconst (-1), 1) := by decide +kernel
theorem d_Mo_length_17 : decode prog_9_method_21_code 17 = .ok (.goto 12, 3) := by decide +kernel
theorem d_Mo_length_20 : decode prog_9_method_21_code 20 = .ok (.aload_n 0, 1) := by decide +kernel
theorem d_Mo_length_21 : decode prog_9_method_21_code 21 = .ok (.getfield 16, 3) := by decide +kernel
theorem d_Mo_length_24 : decode prog_9_method_21_code 24 = .ok (.aload_n 0, 1) := by decide +kernel
theorem d_Mo_length_25 : decode prog_9_method_21_code 25 = .ok (.getfield 40, 3) := by decide +kernel
theorem d_Mo_length_28 : decode prog_9_method_21_code 28 = .ok (.iaload, 1) := by decide +kernel
theorem d_Mo_length_29 : decode prog_9_method_21_code 29 = .ok (.ireturn, 1) := by decide +kernel
theorem d_Mo_byteOf_0 : decode prog_9_method_22_code 0 = .ok (.aload_n 0, 1) := by decide +kernel
theorem d_Mo_byteOf_1 : decode prog_9_method_22_code 1 = .ok (.iconst 0, 1) := by decide +kernel
theorem d_Mo_byteOf_2 : decode prog_9_method_22_code 2 = .ok (.putfield 46, 3) := by decide +kernel
theorem d_Mo_byteOf_5 : decode prog_9_method_22_code 5 = .ok (.aload_n 0, 1) := by decide +kernel
theorem d_Mo_byteOf_6 : decode prog_9_method_22_code 6 = .ok (.getfield 40, 3) := by decide +kernel
theorem d_Mo_byteOf_9 : decode prog_9_method_22_code 9 = .ok (.aload_n 0, 1) := by decide +kernel
theorem d_Mo_byteOf_10 : decode prog_9_method_22_code 10 = .ok (.getfield 60, 3) := by decide +kernel
theorem d_Mo_byteOf_13 : decode prog_9_method_22_code 13 = .ok (.if_icmp .lt 20, 3) := by decide +kernel
theorem d_Mo_byteOf_16 : decode prog_9_method_22_code 16 = .ok (.iload_n 1, 1) := by decide +kernel
theorem d_Mo_byteOf_17 : decode prog_9_method_22_code 17 = .ok (.ifCond .lt 16, 3) := by decide +kernel
theorem d_Mo_byteOf_20 : decode prog_9_method_22_code 20 = .ok (.iload_n 1, 1) := by decide +kernel
theorem d_Mo_byteOf_21 : decode prog_9_method_22_code 21 = .ok (.aload_n 0, 1) := by decide +kernel
theorem d_Mo_byteOf_22 : decode prog_9_method_22_code 22 = .ok (.getfield 16, 3) := by decide +kernel
theorem d_Mo_byteOf_25 : decode prog_9_method_22_code 25 = .ok (.aload_n 0, 1) := by decide +kernel
theorem d_Mo_byteOf_26 : decode prog_9_method_22_code 26 = .ok (.getfield 40, 3) := by decide +kernel
theorem d_Mo_byteOf_29 : decode prog_9_method_22_code 29 = .ok (.iaload, 1) := by decide +kernel
theorem d_Mo_byteOf_30 : decode prog_9_method_22_code 30 = .ok (.if_icmp .lt 7, 3) := by decide +kernel
theorem d_Mo_byteOf_33 : decode prog_9_method_22_code 33 = .ok (.iconst (-1), 1) := by decide +kernel
theorem d_Mo_byteOf_34 : decode prog_9_method_22_code 34 = .ok (.goto 23, 3) := by decide +kernel
theorem d_Mo_byteOf_37 : decode prog_9_method_22_code 37 = .ok (.aload_n 0, 1) := by decide +kernel
theorem d_Mo_byteOf_38 : decode prog_9_method_22_code 38 = .ok (.getfield 22, 3) := by decide +kernel
theorem d_Mo_byteOf_41 : decode prog_9_method_22_code 41 = .ok (.aload_n 0, 1) := by decide +kernel
theorem d_Mo_byteOf_42 : decode prog_9_method_22_code 42 = .ok (.getfield 13, 3) := by decide +kernel
theorem d_Mo_byteOf_45 : decode prog_9_method_22_code 45 = .ok (.aload_n 0, 1) := by decide +kernel
theorem d_Mo_byteOf_46 : decode prog_9_method_22_code 46 = .ok (.getfield 40, 3) := by decide +kernel
theorem d_Mo_byteOf_49 : decode prog_9_method_22_code 49 = .ok (.iaload, 1) := by decide +kernel
theorem d_Mo_byteOf_50 : decode prog_9_method_22_code 50 = .ok (.iload_n 1, 1) := by decide +kernel
theorem d_Mo_byteOf_51 : decode prog_9_method_22_code 51 = .ok (.iadd, 1) := by decide +kernel
theorem d_Mo_byteOf_52 : decode prog_9_method_22_code 52 = .ok (.baload, 1) := by decide +kernel
theorem d_Mo_byteOf_53 : decode prog_9_method_22_code 53 = .ok (.sipush 255, 3) := by decide +kernel
theorem d_Mo_byteOf_56 : decode prog_9_method_22_code 56 = .ok (.iand, 1) := by decide +kernel
theorem d_Mo_byteOf_57 : decode prog_9_method_22_code 57 = .ok (.ireturn, 1) := by decide +kernel
theorem d_Mo_charge_0 : decode prog_9_method_23_code 0 = .ok (.aload_n 0, 1) := by decide +kernel
theorem d_Mo_charge_1 : decode prog_9_method_23_code 1 = .ok (.iload_n 1, 1) := by decide +kernel
theorem d_Mo_charge_2 : decode prog_9_method_23_code 2 = .ok (.ifCond .lt 10, 3) := by decide +kernel
theorem d_Mo_charge_5 : decode prog_9_method_23_code 5 = .ok (.iload_n 1, 1) := by decide +kernel
theorem d_Mo_charge_6 : decode prog_9_method_23_code 6 = .ok (.sipush 999, 3) := by decide +kernel
theorem d_Mo_charge_9 : decode prog_9_method_23_code 9 = .ok (.if_icmp .le 7, 3) := by decide +kernel
theorem d_Mo_charge_12 : decode prog_9_method_23_code 12 = .ok (.iconst 1, 1) := by decide +kernel
theorem d_Mo_charge_13 : decode prog_9_method_23_code 13 = .ok (.goto 4, 3) := by decide +kernel
theorem d_Mo_charge_16 : decode prog_9_method_23_code 16 = .ok (.iconst 0, 1) := by decide +kernel
theorem d_Mo_charge_17 : decode prog_9_method_23_code 17 = .ok (.putfield 46, 3) := by decide +kernel
theorem d_Mo_charge_20 : decode prog_9_method_23_code 20 = .ok (.aload_n 0, 1) := by decide +kernel
theorem d_Mo_charge_21 : decode prog_9_method_23_code 21 = .ok (.aload_n 0, 1) := by decide +kernel
theorem d_Mo_charge_22 : decode prog_9_method_23_code 22 = .ok (.getfield 46, 3) := by decide +kernel
theorem d_Mo_charge_25 : decode prog_9_method_23_code 25 = .ok (.ifCond .ne 7, 3) := by decide +kernel
theorem d_Mo_charge_28 : decode prog_9_method_23_code 28 = .ok (.iload_n 1, 1) := by decide +kernel
theorem d_Mo_charge_29 : decode prog_9_method_23_code 29 = .ok (.goto 7, 3) := by decide +kernel
theorem d_Mo_charge_32 : decode prog_9_method_23_code 32 = .ok (.aload_n 0, 1) := by decide +kernel
theorem d_Mo_charge_33 : decode prog_9_method_23_code 33 = .ok (.getfield 29, 3) := by decide +kernel
theorem d_Mo_charge_36 : decode prog_9_method_23_code 36 = .ok (.putfield 29, 3) := by decide +kernel
theorem d_Mo_charge_39 : decode prog_9_method_23_code 39 = .ok (.return_, 1) := by decide +kernel
theorem d_Mo_state_0 : decode prog_9_method_24_code 0 = .ok (.aload_n 0, 1) := by decide +kernel
theorem d_Mo_state_1 : decode prog_9_method_24_code 1 = .ok (.iconst 0, 1) := by decide +kernel
theorem d_Mo_state_2 : decode prog_9_method_24_code 2 = .ok (.putfield 46, 3) := by decide +kernel
theorem d_Mo_state_5 : decode prog_9_method_24_code 5 = .ok (.iconst 0, 1) := by decide +kernel
theorem d_Mo_state_6 : decode prog_9_method_24_code 6 = .ok (.istore_n 2, 1) := by decide +kernel
theorem d_Mo_state_7 : decode prog_9_method_24_code 7 = .ok (.iconst 0, 1) := by decide +kernel
theorem d_Mo_state_8 : decode prog_9_method_24_code 8 = .ok (.istore_n 3, 1) := by decide +kernel
theorem d_Mo_state_9 : decode prog_9_method_24_code 9 = .ok (.iload_n 3, 1) := by decide +kernel
theorem d_Mo_state_10 : decode prog_9_method_24_code 10 = .ok (.bipush 6, 2) := by decide +kernel
theorem d_Mo_state_12 : decode prog_9_method_24_code 12 = .ok (.if_icmp .ge 26, 3) := by decide +kernel
theorem d_Mo_state_15 : decode prog_9_method_24_code 15 = .ok (.iload_n 2, 1) := by decide +kernel
theorem d_Mo_state_16 : decode prog_9_method_24_code 16 = .ok (.aload_n 0, 1) := by decide +kernel
theorem d_Mo_state_17 : decode prog_9_method_24_code 17 = .ok (.getfield 33, 3) := by decide +kernel
theorem d_Mo_state_20 : decode prog_9_method_24_code 20 = .ok (.iload_n 3, 1) := by decide +kernel
theorem d_Mo_state_21 : decode prog_9_method_24_code 21 = .ok (.iaload, 1) := by decide +kernel
theorem d_Mo_state_22 : decode prog_9_method_24_code 22 = .ok (.ifCond .lt 7, 3) := by decide +kernel
theorem d_Mo_state_25 : decode prog_9_method_24_code 25 = .ok (.iconst 1, 1) := by decide +kernel
theorem d_Mo_state_26 : decode prog_9_method_24_code 26 = .ok (.goto 4, 3) := by decide +kernel
theorem d_Mo_state_29 : decode prog_9_method_24_code 29 = .ok (.iconst 0, 1) := by decide +kernel
theorem d_Mo_state_30 : decode prog_9_method_24_code 30 = .ok (.iadd, 1) := by decide +kernel
theorem d_Mo_state_31 : decode prog_9_method_24_code 31 = .ok (.istore_n 2, 1) := by decide +kernel
theorem d_Mo_state_32 : decode prog_9_method_24_code 32 = .ok (.iinc 3 1, 3) := by decide +kernel
theorem d_Mo_state_35 : decode prog_9_method_24_code 35 = .ok (.goto (-26), 3) := by decide +kernel
theorem d_Mo_state_38 : decode prog_9_method_24_code 38 = .ok (.iconst 0, 1) := by decide +kernel
theorem d_Mo_state_39 : decode prog_9_method_24_code 39 = .ok (.istore_n 3, 1) := by decide +kernel
theorem d_Mo_state_40 : decode prog_9_method_24_code 40 = .ok (.iconst 0, 1) := by decide +kernel
theorem d_Mo_state_41 : decode prog_9_method_24_code 41 = .ok (.istore 4, 2) := by decide +kernel
theorem d_Mo_state_43 : decode prog_9_method_24_code 43 = .ok (.iload 4, 2) := by decide +kernel
theorem d_Mo_state_45 : decode prog_9_method_24_code 45 = .ok (.sipush 2048, 3) := by decide +kernel
theorem d_Mo_state_48 : decode prog_9_method_24_code 48 = .ok (.if_icmp .ge 27, 3) := by decide +kernel
theorem d_Mo_state_51 : decode prog_9_method_24_code 51 = .ok (.iload_n 3, 1) := by decide +kernel
theorem d_Mo_state_52 : decode prog_9_method_24_code 52 = .ok (.aload_n 0, 1) := by decide +kernel
theorem d_Mo_state_53 : decode prog_9_method_24_code 53 = .ok (.getfield 36, 3) := by decide +kernel
theorem d_Mo_state_56 : decode prog_9_method_24_code 56 = .ok (.iload 4, 2) := by decide +kernel
theorem d_Mo_state_58 : decode prog_9_method_24_code 58 = .ok (.baload, 1) := by decide +kernel
theorem d_Mo_state_59 : decode prog_9_method_24_code 59 = .ok (.ifCond .eq 7, 3) := by decide +kernel
theorem d_Mo_state_62 : decode prog_9_method_24_code 62 = .ok (.iconst 1, 1) := by decide +kernel
theorem d_Mo_state_63 : decode prog_9_method_24_code 63 = .ok (.goto 4, 3) := by decide +kernel
theorem d_Mo_state_66 : decode prog_9_method_24_code 66 = .ok (.iconst 0, 1) := by decide +kernel
theorem d_Mo_state_67 : decode prog_9_method_24_code 67 = .ok (.iadd, 1) := by decide +kernel
theorem d_Mo_state_68 : decode prog_9_method_24_code 68 = .ok (.istore_n 3, 1) := by decide +kernel
theorem d_Mo_state_69 : decode prog_9_method_24_code 69 = .ok (.iinc 4 1, 3) := by decide +kernel
theorem d_Mo_state_72 : decode prog_9_method_24_code 72 = .ok (.goto (-29), 3) := by decide +kernel
theorem d_Mo_state_75 : decode prog_9_method_24_code 75 = .ok (.iload_n 1, 1) := by decide +kernel
theorem d_Mo_state_76 : decode prog_9_method_24_code 76 = .ok (.bipush 7, 2) := by decide +kernel
theorem d_Mo_state_78 : decode prog_9_method_24_code 78 = .ok (.if_icmp .ne 28, 3) := by decide +kernel
theorem d_Mo_state_81 : decode prog_9_method_24_code 81 = .ok (.aload_n 0, 1) := by decide +kernel
theorem d_Mo_state_82 : decode prog_9_method_24_code 82 = .ok (.getfield 40, 3) := by decide +kernel
theorem d_Mo_state_85 : decode prog_9_method_24_code 85 = .ok (.aload_n 0, 1) := by decide +kernel
theorem d_Mo_state_86 : decode prog_9_method_24_code 86 = .ok (.getfield 60, 3) := by decide +kernel
theorem d_Mo_state_89 : decode prog_9_method_24_code 89 = .ok (.if_icmp .ge 7, 3) := by decide +kernel
theorem d_Mo_state_92 : decode prog_9_method_24_code 92 = .ok (.iconst (-1), 1) := by decide +kernel
theorem d_Mo_state_93 : decode prog_9_method_24_code 93 = .ok (.goto 12, 3) := by decide +kernel
theorem d_Mo_state_96 : decode prog_9_method_24_code 96 = .ok (.aload_n 0, 1) := by decide +kernel
theorem d_Mo_state_97 : decode prog_9_method_24_code 97 = .ok (.getfield 19, 3) := by decide +kernel
theorem d_Mo_state_100 : decode prog_9_method_24_code 100 = .ok (.aload_n 0, 1) := by decide +kernel
theorem d_Mo_state_101 : decode prog_9_method_24_code 101 = .ok (.getfield 40, 3) := by decide +kernel
theorem d_Mo_state_104 : decode prog_9_method_24_code 104 = .ok (.iaload, 1) := by decide +kernel
theorem d_Mo_state_105 : decode prog_9_method_24_code 105 = .ok (.ireturn, 1) := by decide +kernel
theorem d_Mo_state_106 : decode prog_9_method_24_code 106 = .ok (.iload_n 1, 1) := by decide +kernel
theorem d_Mo_state_107 : decode prog_9_method_24_code 107 = .ok (.ifCond .ne 10, 3) := by decide +kernel
theorem d_Mo_state_110 : decode prog_9_method_24_code 110 = .ok (.aload_n 0, 1) := by decide +kernel
theorem d_Mo_state_111 : decode prog_9_method_24_code 111 = .ok (.getfield 57, 3) := by decide +kernel
theorem d_Mo_state_114 : decode prog_9_method_24_code 114 = .ok (.goto 71, 3) := by decide +kernel
theorem d_Mo_state_117 : decode prog_9_method_24_code 117 = .ok (.iload_n 1, 1) := by decide +kernel
theorem d_Mo_state_118 : decode prog_9_method_24_code 118 = .ok (.iconst 1, 1) := by decide +kernel
theorem d_Mo_state_119 : decode prog_9_method_24_code 119 = .ok (.if_icmp .ne 10, 3) := by decide +kernel
theorem d_Mo_state_122 : decode prog_9_method_24_code 122 = .ok (.aload_n 0, 1) := by decide +kernel
theorem d_Mo_state_123 : decode prog_9_method_24_code 123 = .ok (.getfield 54, 3) := by decide +kernel
theorem d_Mo_state_126 : decode prog_9_method_24_code 126 = .ok (.goto 59, 3) := by decide +kernel
theorem d_Mo_state_129 : decode prog_9_method_24_code 129 = .ok (.iload_n 1, 1) := by decide +kernel
theorem d_Mo_state_130 : decode prog_9_method_24_code 130 = .ok (.iconst 2, 1) := by decide +kernel
theorem d_Mo_state_131 : decode prog_9_method_24_code 131 = .ok (.if_icmp .ne 10, 3) := by decide +kernel
theorem d_Mo_state_134 : decode prog_9_method_24_code 134 = .ok (.aload_n 0, 1) := by decide +kernel
theorem d_Mo_state_135 : decode prog_9_method_24_code 135 = .ok (.getfield 91, 3) := by decide +kernel
theorem d_Mo_state_138 : decode prog_9_method_24_code 138 = .ok (.goto 47, 3) := by decide +kernel
theorem d_Mo_state_141 : decode prog_9_method_24_code 141 = .ok (.iload_n 1, 1) := by decide +kernel
theorem d_Mo_state_142 : decode prog_9_method_24_code 142 = .ok (.iconst 3, 1) := by decide +kernel
theorem d_Mo_state_143 : decode prog_9_method_24_code 143 = .ok (.if_icmp .ne 10, 3) := by decide +kernel
theorem d_Mo_state_146 : decode prog_9_method_24_code 146 = .ok (.aload_n 0, 1) := by decide +kernel
theorem d_Mo_state_147 : decode prog_9_method_24_code 147 = .ok (.getfield 88, 3) := by decide +kernel
theorem d_Mo_state_150 : decode prog_9_method_24_code 150 = .ok (.goto 35, 3) := by decide +kernel
theorem d_Mo_state_153 : decode prog_9_method_24_code 153 = .ok (.iload_n 1, 1) := by decide +kernel
theorem d_Mo_state_154 : decode prog_9_method_24_code 154 = .ok (.iconst 4, 1) := by decide +kernel
theorem d_Mo_state_155 : decode prog_9_method_24_code 155 = .ok (.if_icmp .ne 10, 3) := by decide +kernel
theorem d_Mo_state_158 : decode prog_9_method_24_code 158 = .ok (.aload_n 0, 1) := by decide +kernel
theorem d_Mo_state_159 : decode prog_9_method_24_code 159 = .ok (.getfield 49, 3) := by decide +kernel
theorem d_Mo_state_162 : decode prog_9_method_24_code 162 = .ok (.goto 23, 3) := by decide +kernel
theorem d_Mo_state_165 : decode prog_9_method_24_code 165 = .ok (.iload_n 1, 1) := by decide +kernel
theorem d_Mo_state_166 : decode prog_9_method_24_code 166 = .ok (.iconst 5, 1) := by decide +kernel
theorem d_Mo_state_167 : decode prog_9_method_24_code 167 = .ok (.if_icmp .ne 7, 3) := by decide +kernel
theorem d_Mo_state_170 : decode prog_9_method_24_code 170 = .ok (.iload_n 2, 1) := by decide +kernel
theorem d_Mo_state_171 : decode prog_9_method_24_code 171 = .ok (.goto 14, 3) := by decide +kernel
theorem d_Mo_state_174 : decode prog_9_method_24_code 174 = .ok (.iload_n 1, 1) := by decide +kernel
theorem d_Mo_state_175 : decode prog_9_method_24_code 175 = .ok (.bipush 6, 2) := by decide +kernel
theorem d_Mo_state_177 : decode prog_9_method_24_code 177 = .ok (.if_icmp .ne 7, 3) := by decide +kernel
theorem d_Mo_state_180 : decode prog_9_method_24_code 180 = .ok (.iload_n 3, 1) := by decide +kernel
theorem d_Mo_state_181 : decode prog_9_method_24_code 181 = .ok (.goto 4, 3) := by decide +kernel
theorem d_Mo_state_184 : decode prog_9_method_24_code 184 = .ok (.iconst (-1), 1) := by decide +kernel
theorem d_Mo_state_185 : decode prog_9_method_24_code 185 = .ok (.ireturn, 1) := by decide +kernel
