theorem dX9_init_0 : decode cX9_init 0 = .ok (.aload_n 0, 1) := by decide +kernel
theorem dX9_init_1 : decode cX9_init 1 = .ok (.invokespecial 1, 3) := by decide +kernel
theorem dX9_init_4 : decode cX9_init 4 = .ok (.return_, 1) := by decide +kernel
theorem dX4_init_0 : decode cX4_init 0 = .ok (.aload_n 0, 1) := by decide +kernel
theorem dX4_init_1 : decode cX4_init 1 = .ok (.invokespecial 3, 3) := by decide +kernel
theorem dX4_init_4 : decode cX4_init 4 = .ok (.aload_n 0, 1) := by decide +kernel
theorem dX4_init_5 : decode cX4_init 5 = .ok (.bipush 64, 2) := by decide +kernel
theorem dX4_init_7 : decode cX4_init 7 = .ok (.newarray .int, 2) := by decide +kernel
theorem dX4_init_9 : decode cX4_init 9 = .ok (.putfield 9, 3) := by decide +kernel
theorem dX4_init_12 : decode cX4_init 12 = .ok (.aload_n 0, 1) := by decide +kernel
theorem dX4_init_13 : decode cX4_init 13 = .ok (.bipush 64, 2) := by decide +kernel
theorem dX4_init_15 : decode cX4_init 15 = .ok (.newarray .int, 2) := by decide +kernel
theorem dX4_init_17 : decode cX4_init 17 = .ok (.putfield 15, 3) := by decide +kernel
theorem dX4_init_20 : decode cX4_init 20 = .ok (.aload_n 0, 1) := by decide +kernel
theorem dX4_init_21 : decode cX4_init 21 = .ok (.bipush 64, 2) := by decide +kernel
theorem dX4_init_23 : decode cX4_init 23 = .ok (.newarray .int, 2) := by decide +kernel
theorem dX4_init_25 : decode cX4_init 25 = .ok (.putfield 18, 3) := by decide +kernel
theorem dX4_init_28 : decode cX4_init 28 = .ok (.return_, 1) := by decide +kernel
theorem dX4_add_0 : decode cX4_add 0 = .ok (.iconst 0, 1) := by decide +kernel
theorem dX4_add_1 : decode cX4_add 1 = .ok (.istore 4, 2) := by decide +kernel
theorem dX4_add_3 : decode cX4_add 3 = .ok (.iload 4, 2) := by decide +kernel
theorem dX4_add_5 : decode cX4_add 5 = .ok (.aload_n 0, 1) := by decide +kernel
theorem dX4_add_6 : decode cX4_add 6 = .ok (.getfield 21, 3) := by decide +kernel
theorem dX4_add_9 : decode cX4_add 9 = .ok (.if_icmp .ge 41, 3) := by decide +kernel
theorem dX4_add_12 : decode cX4_add 12 = .ok (.aload_n 0, 1) := by decide +kernel
theorem dX4_add_13 : decode cX4_add 13 = .ok (.getfield 9, 3) := by decide +kernel
theorem dX4_add_16 : decode cX4_add 16 = .ok (.iload 4, 2) := by decide +kernel
theorem dX4_add_18 : decode cX4_add 18 = .ok (.iaload, 1) := by decide +kernel
theorem dX4_add_19 : decode cX4_add 19 = .ok (.iload_n 1, 1) := by decide +kernel
theorem dX4_add_20 : decode cX4_add 20 = .ok (.if_icmp .ne 24, 3) := by decide +kernel
theorem dX4_add_23 : decode cX4_add 23 = .ok (.aload_n 0, 1) := by decide +kernel
theorem dX4_add_24 : decode cX4_add 24 = .ok (.getfield 15, 3) := by decide +kernel
theorem dX4_add_27 : decode cX4_add 27 = .ok (.iload 4, 2) := by decide +kernel
theorem dX4_add_29 : decode cX4_add 29 = .ok (.iaload, 1) := by decide +kernel
theorem dX4_add_30 : decode cX4_add 30 = .ok (.iload_n 2, 1) := by decide +kernel
theorem dX4_add_31 : decode cX4_add 31 = .ok (.if_icmp .ne 13, 3) := by decide +kernel
theorem dX4_add_34 : decode cX4_add 34 = .ok (.aload_n 0, 1) := by decide +kernel
theorem dX4_add_35 : decode cX4_add 35 = .ok (.getfield 18, 3) := by decide +kernel
theorem dX4_add_38 : decode cX4_add 38 = .ok (.iload 4, 2) := by decide +kernel
theorem dX4_add_40 : decode cX4_add 40 = .ok (.iload_n 3, 1) := by decide +kernel
theorem dX4_add_41 : decode cX4_add 41 = .ok (.iastore, 1) := by decide +kernel
theorem dX4_add_42 : decode cX4_add 42 = .ok (.iconst 1, 1) := by decide +kernel
theorem dX4_add_43 : decode cX4_add 43 = .ok (.ireturn, 1) := by decide +kernel
theorem dX4_add_44 : decode cX4_add 44 = .ok (.iinc 4 1, 3) := by decide +kernel
theorem dX4_add_47 : decode cX4_add 47 = .ok (.goto (-44), 3) := by decide +kernel
theorem dX4_add_50 : decode cX4_add 50 = .ok (.aload_n 0, 1) := by decide +kernel
theorem dX4_add_51 : decode cX4_add 51 = .ok (.getfield 21, 3) := by decide +kernel
theorem dX4_add_54 : decode cX4_add 54 = .ok (.bipush 64, 2) := by decide +kernel
theorem dX4_add_56 : decode cX4_add 56 = .ok (.if_icmp .lt 5, 3) := by decide +kernel
theorem dX4_add_59 : decode cX4_add 59 = .ok (.iconst 0, 1) := by decide +kernel
theorem dX4_add_60 : decode cX4_add 60 = .ok (.ireturn, 1) := by decide +kernel
theorem dX4_add_61 : decode cX4_add 61 = .ok (.aload_n 0, 1) := by decide +kernel
theorem dX4_add_62 : decode cX4_add 62 = .ok (.getfield 9, 3) := by decide +kernel
theorem dX4_add_65 : decode cX4_add 65 = .ok (.aload_n 0, 1) := by decide +kernel
theorem dX4_add_66 : decode cX4_add 66 = .ok (.getfield 21, 3) := by decide +kernel
theorem dX4_add_69 : decode cX4_add 69 = .ok (.iload_n 1, 1) := by decide +kernel
theorem dX4_add_70 : decode cX4_add 70 = .ok (.iastore, 1) := by decide +kernel
theorem dX4_add_71 : decode cX4_add 71 = .ok (.aload_n 0, 1) := by decide +kernel
theorem dX4_add_72 : decode cX4_add 72 = .ok (.getfield 15, 3) := by decide +kernel
theorem dX4_add_75 : decode cX4_add 75 = .ok (.aload_n 0, 1) := by decide +kernel
theorem dX4_add_76 : decode cX4_add 76 = .ok (.getfield 21, 3) := by decide +kernel
theorem dX4_add_79 : decode cX4_add 79 = .ok (.iload_n 2, 1) := by decide +kernel
theorem dX4_add_80 : decode cX4_add 80 = .ok (.iastore, 1) := by decide +kernel
theorem dX4_add_81 : decode cX4_add 81 = .ok (.aload_n 0, 1) := by decide +kernel
theorem dX4_add_82 : decode cX4_add 82 = .ok (.getfield 18, 3) := by decide +kernel
theorem dX4_add_85 : decode cX4_add 85 = .ok (.aload_n 0, 1) := by decide +kernel
theorem dX4_add_86 : decode cX4_add 86 = .ok (.getfield 21, 3) := by decide +kernel
theorem dX4_add_89 : decode cX4_add 89 = .ok (.iload_n 3, 1) := by decide +kernel
theorem dX4_add_90 : decode cX4_add 90 = .ok (.iastore, 1) := by decide +kernel
theorem dX4_add_91 : decode cX4_add 91 = .ok (.aload_n 0, 1) := by decide +kernel
theorem dX4_add_92 : decode cX4_add 92 = .ok (.dup, 1) := by decide +kernel
theorem dX4_add_93 : decode cX4_add 93 = .ok (.getfield 21, 3) := by decide +kernel
theorem dX4_add_96 : decode cX4_add 96 = .ok (.iconst 1, 1) := by decide +kernel
theorem dX4_add_97 : decode cX4_add 97 = .ok (.iadd, 1) := by decide +kernel
theorem dX4_add_98 : decode cX4_add 98 = .ok (.putfield 21, 3) := by decide +kernel
theorem dX4_add_101 : decode cX4_add 101 = .ok (.iconst 1, 1) := by decide +kernel
theorem dX4_add_102 : decode cX4_add 102 = .ok (.ireturn, 1) := by decide +kernel
theorem dX10_init_0 : decode cX10_init 0 = .ok (.aload_n 0, 1) := by decide +kernel
theorem dX10_init_1 : decode cX10_init 1 = .ok (.invokespecial 3, 3) := by decide +kernel
theorem dX10_init_4 : decode cX10_init 4 = .ok (.aload_n 0, 1) := by decide +kernel
theorem dX10_init_5 : decode cX10_init 5 = .ok (.bipush 23, 2) := by decide +kernel
theorem dX10_init_7 : decode cX10_init 7 = .ok (.newarray .int, 2) := by decide +kernel
theorem dX10_init_9 : decode cX10_init 9 = .ok (.putfield 9, 3) := by decide +kernel
theorem dX10_init_12 : decode cX10_init 12 = .ok (.return_, 1) := by decide +kernel
theorem dX7_init_0 : decode cX7_init 0 = .ok (.aload_n 0, 1) := by decide +kernel
theorem dX7_init_1 : decode cX7_init 1 = .ok (.invokespecial 3, 3) := by decide +kernel
theorem dX7_init_4 : decode cX7_init 4 = .ok (.aload_n 0, 1) := by decide +kernel
theorem dX7_init_5 : decode cX7_init 5 = .ok (.aload_n 1, 1) := by decide +kernel
theorem dX7_init_6 : decode cX7_init 6 = .ok (.putfield 9, 3) := by decide +kernel
theorem dX7_init_9 : decode cX7_init 9 = .ok (.aload_n 0, 1) := by decide +kernel
theorem dX7_init_10 : decode cX7_init 10 = .ok (.bipush 8, 2) := by decide +kernel
theorem dX7_init_12 : decode cX7_init 12 = .ok (.anewarray 15, 3) := by decide +kernel
theorem dX7_init_15 : decode cX7_init 15 = .ok (.putfield 17, 3) := by decide +kernel
theorem dX7_init_18 : decode cX7_init 18 = .ok (.iconst 0, 1) := by decide +kernel
theorem dX7_init_19 : decode cX7_init 19 = .ok (.istore_n 2, 1) := by decide +kernel
theorem dX7_init_20 : decode cX7_init 20 = .ok (.iload_n 2, 1) := by decide +kernel
theorem dX7_init_21 : decode cX7_init 21 = .ok (.bipush 8, 2) := by decide +kernel
theorem dX7_init_23 : decode cX7_init 23 = .ok (.if_icmp .ge 22, 3) := by decide +kernel
theorem dX7_init_26 : decode cX7_init 26 = .ok (.aload_n 0, 1) := by decide +kernel
theorem dX7_init_27 : decode cX7_init 27 = .ok (.getfield 17, 3) := by decide +kernel
theorem dX7_init_30 : decode cX7_init 30 = .ok (.iload_n 2, 1) := by decide +kernel
theorem dX7_init_31 : decode cX7_init 31 = .ok (.new 15, 3) := by decide +kernel
theorem dX7_init_34 : decode cX7_init 34 = .ok (.dup, 1) := by decide +kernel
theorem dX7_init_35 : decode cX7_init 35 = .ok (.invokespecial 21, 3) := by decide +kernel
theorem dX7_init_38 : decode cX7_init 38 = .ok (.aastore, 1) := by decide +kernel
theorem dX7_init_39 : decode cX7_init 39 = .ok (.iinc 2 1, 3) := by decide +kernel
theorem dX7_init_42 : decode cX7_init 42 = .ok (.goto (-22), 3) := by decide +kernel
theorem dX7_init_45 : decode cX7_init 45 = .ok (.return_, 1) := by decide +kernel
theorem dX5_init_0 : decode cX5_init 0 = .ok (.aload_n 0, 1) := by decide +kernel
theorem dX5_init_1 : decode cX5_init 1 = .ok (.invokespecial 3, 3) := by decide +kernel
theorem dX5_init_4 : decode cX5_init 4 = .ok (.aload_n 0, 1) := by decide +kernel
theorem dX5_init_5 : decode cX5_init 5 = .ok (.iload_n 1, 1) := by decide +kernel
theorem dX5_init_6 : decode cX5_init 6 = .ok (.putfield 9, 3) := by decide +kernel
theorem dX5_init_9 : decode cX5_init 9 = .ok (.aload_n 0, 1) := by decide +kernel
theorem dX5_init_10 : decode cX5_init 10 = .ok (.iload_n 2, 1) := by decide +kernel
theorem dX5_init_11 : decode cX5_init 11 = .ok (.putfield 15, 3) := by decide +kernel
theorem dX5_init_14 : decode cX5_init 14 = .ok (.aload_n 0, 1) := by decide +kernel
theorem dX5_init_15 : decode cX5_init 15 = .ok (.new 18, 3) := by decide +kernel
theorem dX5_init_18 : decode cX5_init 18 = .ok (.dup, 1) := by decide +kernel
theorem dX5_init_19 : decode cX5_init 19 = .ok (.aload_n 3, 1) := by decide +kernel
theorem dX5_init_20 : decode cX5_init 20 = .ok (.invokespecial 20, 3) := by decide +kernel
theorem dX5_init_23 : decode cX5_init 23 = .ok (.putfield 23, 3) := by decide +kernel
theorem dX5_init_26 : decode cX5_init 26 = .ok (.aload_n 0, 1) := by decide +kernel
theorem dX5_init_27 : decode cX5_init 27 = .ok (.bipush 29, 2) := by decide +kernel
theorem dX5_init_29 : decode cX5_init 29 = .ok (.anewarray 27, 3) := by decide +kernel
theorem dX5_init_32 : decode cX5_init 32 = .ok (.putfield 29, 3) := by decide +kernel
theorem dX5_init_35 : decode cX5_init 35 = .ok (.return_, 1) := by decide +kernel
theorem dX11_init_0 : decode cX11_init 0 = .ok (.aload_n 0, 1) := by decide +kernel
theorem dX11_init_1 : decode cX11_init 1 = .ok (.invokespecial 1, 3) := by decide +kernel
theorem dX11_init_4 : decode cX11_init 4 = .ok (.aload_n 0, 1) := by decide +kernel
theorem dX11_init_5 : decode cX11_init 5 = .ok (.new 7, 3) := by decide +kernel
theorem dX11_init_8 : decode cX11_init 8 = .ok (.dup, 1) := by decide +kernel
theorem dX11_init_9 : decode cX11_init 9 = .ok (.invokespecial 9, 3) := by decide +kernel
theorem dX11_init_12 : decode cX11_init 12 = .ok (.putfield 10, 3) := by decide +kernel
theorem dX11_init_15 : decode cX11_init 15 = .ok (.aload_n 0, 1) := by decide +kernel
theorem dX11_init_16 : decode cX11_init 16 = .ok (.bipush 6, 2) := by decide +kernel
theorem dX11_init_18 : decode cX11_init 18 = .ok (.anewarray 16, 3) := by decide +kernel
theorem dX11_init_21 : decode cX11_init 21 = .ok (.putfield 18, 3) := by decide +kernel
theorem dX11_init_24 : decode cX11_init 24 = .ok (.aload_n 0, 1) := by decide +kernel
theorem dX11_init_25 : decode cX11_init 25 = .ok (.bipush 24, 2) := by decide +kernel
theorem dX11_init_27 : decode cX11_init 27 = .ok (.anewarray 22, 3) := by decide +kernel
theorem dX11_init_30 : decode cX11_init 30 = .ok (.putfield 24, 3) := by decide +kernel
theorem dX11_init_33 : decode cX11_init 33 = .ok (.aload_n 0, 1) := by decide +kernel
theorem dX11_init_34 : decode cX11_init 34 = .ok (.iconst 5, 1) := by decide +kernel
theorem dX11_init_35 : decode cX11_init 35 = .ok (.anewarray 28, 3) := by decide +kernel
theorem dX11_init_38 : decode cX11_init 38 = .ok (.putfield 30, 3) := by decide +kernel
theorem dX11_init_41 : decode cX11_init 41 = .ok (.aload_n 0, 1) := by decide +kernel
theorem dX11_init_42 : decode cX11_init 42 = .ok (.bipush 10, 2) := by decide +kernel
theorem dX11_init_44 : decode cX11_init 44 = .ok (.anewarray 34, 3) := by decide +kernel
theorem dX11_init_47 : decode cX11_init 47 = .ok (.putfield 36, 3) := by decide +kernel
theorem dX11_init_50 : decode cX11_init 50 = .ok (.aload_n 0, 1) := by decide +kernel
theorem dX11_init_51 : decode cX11_init 51 = .ok (.new 40, 3) := by decide +kernel
theorem dX11_init_54 : decode cX11_init 54 = .ok (.dup, 1) := by decide +kernel
theorem dX11_init_55 : decode cX11_init 55 = .ok (.invokespecial 42, 3) := by decide +kernel
theorem dX11_init_58 : decode cX11_init 58 = .ok (.putfield 43, 3) := by decide +kernel
theorem dX11_init_61 : decode cX11_init 61 = .ok (.aload_n 0, 1) := by decide +kernel
theorem dX11_init_62 : decode cX11_init 62 = .ok (.bipush 60, 2) := by decide +kernel
theorem dX11_init_64 : decode cX11_init 64 = .ok (.newarray .int, 2) := by decide +kernel
theorem dX11_init_66 : decode cX11_init 66 = .ok (.putfield 47, 3) := by decide +kernel
theorem dX11_init_69 : decode cX11_init 69 = .ok (.aload_n 0, 1) := by decide +kernel
theorem dX11_init_70 : decode cX11_init 70 = .ok (.new 51, 3) := by decide +kernel
theorem dX11_init_73 : decode cX11_init 73 = .ok (.dup, 1) := by decide +kernel
theorem dX11_init_74 : decode cX11_init 74 = .ok (.invokespecial 53, 3) := by decide +kernel
theorem dX11_init_77 : decode cX11_init 77 = .ok (.putfield 54, 3) := by decide +kernel
theorem dX11_init_80 : decode cX11_init 80 = .ok (.aload_n 0, 1) := by decide +kernel
theorem dX11_init_81 : decode cX11_init 81 = .ok (.new 51, 3) := by decide +kernel
theorem dX11_init_84 : decode cX11_init 84 = .ok (.dup, 1) := by decide +kernel
theorem dX11_init_85 : decode cX11_init 85 = .ok (.invokespecial 53, 3) := by decide +kernel
theorem dX11_init_88 : decode cX11_init 88 = .ok (.putfield 58, 3) := by decide +kernel
theorem dX11_init_91 : decode cX11_init 91 = .ok (.aload_n 0, 1) := by decide +kernel
theorem dX11_init_92 : decode cX11_init 92 = .ok (.iconst (-1), 1) := by decide +kernel
theorem dX11_init_93 : decode cX11_init 93 = .ok (.putfield 61, 3) := by decide +kernel
theorem dX11_init_96 : decode cX11_init 96 = .ok (.aload_n 0, 1) := by decide +kernel
theorem dX11_init_97 : decode cX11_init 97 = .ok (.iconst 0, 1) := by decide +kernel
theorem dX11_init_98 : decode cX11_init 98 = .ok (.putfield 65, 3) := by decide +kernel
theorem dX11_init_101 : decode cX11_init 101 = .ok (.return_, 1) := by decide +kernel
theorem dX11_isWithin_0 : decode cX11_isWithin 0 = .ok (.iload_n 0, 1) := by decide +kernel
theorem dX11_isWithin_1 : decode cX11_isWithin 1 = .ok (.iload_n 1, 1) := by decide +kernel
theorem dX11_isWithin_2 : decode cX11_isWithin 2 = .ok (.if_icmp .lt 12, 3) := by decide +kernel
theorem dX11_isWithin_5 : decode cX11_isWithin 5 = .ok (.iload_n 0, 1) := by decide +kernel
theorem dX11_isWithin_6 : decode cX11_isWithin 6 = .ok (.iload_n 2, 1) := by decide +kernel
theorem dX11_isWithin_7 : decode cX11_isWithin 7 = .ok (.if_icmp .gt 7, 3) := by decide +kernel
theorem dX11_isWithin_10 : decode cX11_isWithin 10 = .ok (.iconst 1, 1) := by decide +kernel
theorem dX11_isWithin_11 : decode cX11_isWithin 11 = .ok (.goto 4, 3) := by decide +kernel
theorem dX11_isWithin_14 : decode cX11_isWithin 14 = .ok (.iconst 0, 1) := by decide +kernel
theorem dX11_isWithin_15 : decode cX11_isWithin 15 = .ok (.ireturn, 1) := by decide +kernel
theorem dX11_line_0 : decode cX11_line 0 = .ok (.aload_n 0, 1) := by decide +kernel
theorem dX11_line_1 : decode cX11_line 1 = .ok (.getfield 68, 3) := by decide +kernel
theorem dX11_line_4 : decode cX11_line 4 = .ok (.bipush 6, 2) := by decide +kernel
theorem dX11_line_6 : decode cX11_line 6 = .ok (.if_icmp .ge 23, 3) := by decide +kernel
theorem dX11_line_9 : decode cX11_line 9 = .ok (.iload_n 1, 1) := by decide +kernel
theorem dX11_line_10 : decode cX11_line 10 = .ok (.iconst 0, 1) := by decide +kernel
theorem dX11_line_11 : decode cX11_line 11 = .ok (.sipush 255, 3) := by decide +kernel
theorem dX11_line_14 : decode cX11_line 14 = .ok (.invokestatic 71, 3) := by decide +kernel
theorem dX11_line_17 : decode cX11_line 17 = .ok (.ifCond .eq 12, 3) := by decide +kernel
theorem dX11_line_20 : decode cX11_line 20 = .ok (.aload_n 0, 1) := by decide +kernel
theorem dX11_line_21 : decode cX11_line 21 = .ok (.iload_n 1, 1) := by decide +kernel
theorem dX11_line_22 : decode cX11_line 22 = .ok (.invokevirtual 75, 3) := by decide +kernel
theorem dX11_line_25 : decode cX11_line 25 = .ok (.iconst (-1), 1) := by decide +kernel
theorem dX11_line_26 : decode cX11_line 26 = .ok (.if_icmp .eq 5, 3) := by decide +kernel
theorem dX11_line_29 : decode cX11_line 29 = .ok (.iconst (-1), 1) := by decide +kernel
theorem dX11_line_30 : decode cX11_line 30 = .ok (.ireturn, 1) := by decide +kernel
theorem dX11_line_31 : decode cX11_line 31 = .ok (.aload_n 0, 1) := by decide +kernel
theorem dX11_line_32 : decode cX11_line 32 = .ok (.getfield 18, 3) := by decide +kernel
theorem dX11_line_35 : decode cX11_line 35 = .ok (.aload_n 0, 1) := by decide +kernel
theorem dX11_line_36 : decode cX11_line 36 = .ok (.getfield 68, 3) := by decide +kernel
theorem dX11_line_39 : decode cX11_line 39 = .ok (.new 16, 3) := by decide +kernel
theorem dX11_line_42 : decode cX11_line 42 = .ok (.dup, 1) := by decide +kernel
theorem dX11_line_43 : decode cX11_line 43 = .ok (.iload_n 1, 1) := by decide +kernel
theorem dX11_line_44 : decode cX11_line 44 = .ok (.iconst 1, 1) := by decide +kernel
theorem dX11_line_45 : decode cX11_line 45 = .ok (.aload_n 0, 1) := by decide +kernel
theorem dX11_line_46 : decode cX11_line 46 = .ok (.getfield 68, 3) := by decide +kernel
theorem dX11_line_49 : decode cX11_line 49 = .ok (.ishl, 1) := by decide +kernel
theorem dX11_line_50 : decode cX11_line 50 = .ok (.aload_n 0, 1) := by decide +kernel
theorem dX11_line_51 : decode cX11_line 51 = .ok (.getfield 10, 3) := by decide +kernel
theorem dX11_line_54 : decode cX11_line 54 = .ok (.invokespecial 79, 3) := by decide +kernel
theorem dX11_line_57 : decode cX11_line 57 = .ok (.aastore, 1) := by decide +kernel
theorem dX11_line_58 : decode cX11_line 58 = .ok (.aload_n 0, 1) := by decide +kernel
theorem dX11_line_59 : decode cX11_line 59 = .ok (.dup, 1) := by decide +kernel
theorem dX11_line_60 : decode cX11_line 60 = .ok (.getfield 68, 3) := by decide +kernel
theorem dX11_line_63 : decode cX11_line 63 = .ok (.iconst 1, 1) := by decide +kernel
theorem dX11_line_64 : decode cX11_line 64 = .ok (.iadd, 1) := by decide +kernel
theorem dX11_line_65 : decode cX11_line 65 = .ok (.putfield 68, 3) := by decide +kernel
theorem dX11_line_68 : decode cX11_line 68 = .ok (.aload_n 0, 1) := by decide +kernel
theorem dX11_line_69 : decode cX11_line 69 = .ok (.getfield 68, 3) := by decide +kernel
theorem dX11_line_72 : decode cX11_line 72 = .ok (.iconst 1, 1) := by decide +kernel
theorem dX11_line_73 : decode cX11_line 73 = .ok (.isub, 1) := by decide +kernel
theorem dX11_line_74 : decode cX11_line 74 = .ok (.ireturn, 1) := by decide +kernel
theorem dX11_lineOfNumber_0 : decode cX11_lineOfNumber 0 = .ok (.iconst 0, 1) := by decide +kernel
theorem dX11_lineOfNumber_1 : decode cX11_lineOfNumber 1 = .ok (.istore_n 2, 1) := by decide +kernel
theorem dX11_lineOfNumber_2 : decode cX11_lineOfNumber 2 = .ok (.iload_n 2, 1) := by decide +kernel
theorem dX11_lineOfNumber_3 : decode cX11_lineOfNumber 3 = .ok (.aload_n 0, 1) := by decide +kernel
theorem dX11_lineOfNumber_4 : decode cX11_lineOfNumber 4 = .ok (.getfield 68, 3) := by decide +kernel
theorem dX11_lineOfNumber_7 : decode cX11_lineOfNumber 7 = .ok (.if_icmp .ge 24, 3) := by decide +kernel
theorem dX11_lineOfNumber_10 : decode cX11_lineOfNumber 10 = .ok (.aload_n 0, 1) := by decide +kernel
theorem dX11_lineOfNumber_11 : decode cX11_lineOfNumber 11 = .ok (.getfield 18, 3) := by decide +kernel
theorem dX11_lineOfNumber_14 : decode cX11_lineOfNumber 14 = .ok (.iload_n 2, 1) := by decide +kernel
theorem dX11_lineOfNumber_15 : decode cX11_lineOfNumber 15 = .ok (.aaload, 1) := by decide +kernel
theorem dX11_lineOfNumber_16 : decode cX11_lineOfNumber 16 = .ok (.getfield 89, 3) := by decide +kernel
theorem dX11_lineOfNumber_19 : decode cX11_lineOfNumber 19 = .ok (.iload_n 1, 1) := by decide +kernel
theorem dX11_lineOfNumber_20 : decode cX11_lineOfNumber 20 = .ok (.if_icmp .ne 5, 3) := by decide +kernel
theorem dX11_lineOfNumber_23 : decode cX11_lineOfNumber 23 = .ok (.iload_n 2, 1) := by decide +kernel
theorem dX11_lineOfNumber_24 : decode cX11_lineOfNumber 24 = .ok (.ireturn, 1) := by decide +kernel
theorem dX11_lineOfNumber_25 : decode cX11_lineOfNumber 25 = .ok (.iinc 2 1, 3) := by decide +kernel
theorem dX11_lineOfNumber_28 : decode cX11_lineOfNumber 28 = .ok (.goto (-26), 3) := by decide +kernel
theorem dX11_lineOfNumber_31 : decode cX11_lineOfNumber 31 = .ok (.iconst (-1), 1) := by decide +kernel
theorem dX11_lineOfNumber_32 : decode cX11_lineOfNumber 32 = .ok (.ireturn, 1) := by decide +kernel
theorem dX11_lineAt_0 : decode cX11_lineAt 0 = .ok (.iload_n 1, 1) := by decide +kernel
theorem dX11_lineAt_1 : decode cX11_lineAt 1 = .ok (.iconst 0, 1) := by decide +kernel
theorem dX11_lineAt_2 : decode cX11_lineAt 2 = .ok (.aload_n 0, 1) := by decide +kernel
theorem dX11_lineAt_3 : decode cX11_lineAt 3 = .ok (.getfield 68, 3) := by decide +kernel
theorem dX11_lineAt_6 : decode cX11_lineAt 6 = .ok (.iconst 1, 1) := by decide +kernel
theorem dX11_lineAt_7 : decode cX11_lineAt 7 = .ok (.isub, 1) := by decide +kernel
theorem dX11_lineAt_8 : decode cX11_lineAt 8 = .ok (.invokestatic 71, 3) := by decide +kernel
theorem dX11_lineAt_11 : decode cX11_lineAt 11 = .ok (.ifCond .eq 12, 3) := by decide +kernel
theorem dX11_lineAt_14 : decode cX11_lineAt 14 = .ok (.aload_n 0, 1) := by decide +kernel
theorem dX11_lineAt_15 : decode cX11_lineAt 15 = .ok (.getfield 18, 3) := by decide +kernel
theorem dX11_lineAt_18 : decode cX11_lineAt 18 = .ok (.iload_n 1, 1) := by decide +kernel
theorem dX11_lineAt_19 : decode cX11_lineAt 19 = .ok (.aaload, 1) := by decide +kernel
theorem dX11_lineAt_20 : decode cX11_lineAt 20 = .ok (.goto 4, 3) := by decide +kernel
theorem dX11_lineAt_23 : decode cX11_lineAt 23 = .ok (.aconst_null, 1) := by decide +kernel
theorem dX11_lineAt_24 : decode cX11_lineAt 24 = .ok (.areturn, 1) := by decide +kernel
theorem dX11_device_0 : decode cX11_device 0 = .ok (.aload_n 0, 1) := by decide +kernel
theorem dX11_device_1 : decode cX11_device 1 = .ok (.iload_n 1, 1) := by decide +kernel
theorem dX11_device_2 : decode cX11_device 2 = .ok (.invokevirtual 82, 3) := by decide +kernel
theorem dX11_device_5 : decode cX11_device 5 = .ok (.astore_n 3, 1) := by decide +kernel
theorem dX11_device_6 : decode cX11_device 6 = .ok (.aload_n 0, 1) := by decide +kernel
theorem dX11_device_7 : decode cX11_device 7 = .ok (.getfield 86, 3) := by decide +kernel
theorem dX11_device_10 : decode cX11_device 10 = .ok (.bipush 24, 2) := by decide +kernel
theorem dX11_device_12 : decode cX11_device 12 = .ok (.if_icmp .ge 18, 3) := by decide +kernel
theorem dX11_device_15 : decode cX11_device 15 = .ok (.aload_n 3, 1) := by decide +kernel
theorem dX11_device_16 : decode cX11_device 16 = .ok (.ifnull 14, 3) := by decide +kernel
theorem dX11_device_19 : decode cX11_device 19 = .ok (.iload_n 2, 1) := by decide +kernel
theorem dX11_device_20 : decode cX11_device 20 = .ok (.iconst 1, 1) := by decide +kernel
theorem dX11_device_21 : decode cX11_device 21 = .ok (.sipush 255, 3) := by decide +kernel
theorem dX11_device_24 : decode cX11_device 24 = .ok (.invokestatic 71, 3) := by decide +kernel
theorem dX11_device_27 : decode cX11_device 27 = .ok (.ifCond .ne 5, 3) := by decide +kernel
theorem dX11_device_30 : decode cX11_device 30 = .ok (.iconst (-1), 1) := by decide +kernel
theorem dX11_device_31 : decode cX11_device 31 = .ok (.ireturn, 1) := by decide +kernel
theorem dX11_device_32 : decode cX11_device 32 = .ok (.sipush 256, 3) := by decide +kernel
theorem dX11_device_35 : decode cX11_device 35 = .ok (.aload_n 3, 1) := by decide +kernel
theorem dX11_device_36 : decode cX11_device 36 = .ok (.getfield 89, 3) := by decide +kernel
theorem dX11_device_39 : decode cX11_device 39 = .ok (.imul, 1) := by decide +kernel
theorem dX11_device_40 : decode cX11_device 40 = .ok (.iload_n 2, 1) := by decide +kernel
theorem dX11_device_41 : decode cX11_device 41 = .ok (.iadd, 1) := by decide +kernel
theorem dX11_device_42 : decode cX11_device 42 = .ok (.istore 4, 2) := by decide +kernel
theorem dX11_device_44 : decode cX11_device 44 = .ok (.aload_n 0, 1) := by decide +kernel
theorem dX11_device_45 : decode cX11_device 45 = .ok (.iload 4, 2) := by decide +kernel
theorem dX11_device_47 : decode cX11_device 47 = .ok (.invokevirtual 92, 3) := by decide +kernel
theorem dX11_device_50 : decode cX11_device 50 = .ok (.ifCond .eq 5, 3) := by decide +kernel
theorem dX11_device_53 : decode cX11_device 53 = .ok (.iconst (-1), 1) := by decide +kernel
theorem dX11_device_54 : decode cX11_device 54 = .ok (.ireturn, 1) := by decide +kernel
theorem dX11_device_55 : decode cX11_device 55 = .ok (.new 96, 3) := by decide +kernel
theorem dX11_device_58 : decode cX11_device 58 = .ok (.dup, 1) := by decide +kernel
theorem dX11_device_59 : decode cX11_device 59 = .ok (.aload_n 0, 1) := by decide +kernel
theorem dX11_device_60 : decode cX11_device 60 = .ok (.getfield 10, 3) := by decide +kernel
theorem dX11_device_63 : decode cX11_device 63 = .ok (.invokespecial 98, 3) := by decide +kernel
theorem dX11_device_66 : decode cX11_device 66 = .ok (.astore 5, 2) := by decide +kernel
theorem dX11_device_68 : decode cX11_device 68 = .ok (.new 51, 3) := by decide +kernel
theorem dX11_device_71 : decode cX11_device 71 = .ok (.dup, 1) := by decide +kernel
theorem dX11_device_72 : decode cX11_device 72 = .ok (.invokespecial 53, 3) := by decide +kernel
theorem dX11_device_75 : decode cX11_device 75 = .ok (.astore 6, 2) := by decide +kernel
theorem dX11_device_77 : decode cX11_device 77 = .ok (.new 22, 3) := by decide +kernel
theorem dX11_device_80 : decode cX11_device 80 = .ok (.dup, 1) := by decide +kernel
theorem dX11_device_81 : decode cX11_device 81 = .ok (.iload 4, 2) := by decide +kernel
theorem dX11_device_83 : decode cX11_device 83 = .ok (.aload 5, 2) := by decide +kernel
theorem dX11_device_85 : decode cX11_device 85 = .ok (.aload 6, 2) := by decide +kernel
theorem dX11_device_87 : decode cX11_device 87 = .ok (.new 101, 3) := by decide +kernel
theorem dX11_device_90 : decode cX11_device 90 = .ok (.dup, 1) := by decide +kernel
theorem dX11_device_91 : decode cX11_device 91 = .ok (.iload 4, 2) := by decide +kernel
theorem dX11_device_93 : decode cX11_device 93 = .ok (.aload 5, 2) := by decide +kernel
theorem dX11_device_95 : decode cX11_device 95 = .ok (.aload 6, 2) := by decide +kernel
theorem dX11_device_97 : decode cX11_device 97 = .ok (.invokespecial 103, 3) := by decide +kernel
theorem dX11_device_100 : decode cX11_device 100 = .ok (.invokespecial 106, 3) := by decide +kernel
theorem dX11_device_103 : decode cX11_device 103 = .ok (.astore 7, 2) := by decide +kernel
theorem dX11_device_105 : decode cX11_device 105 = .ok (.aload_n 3, 1) := by decide +kernel
theorem dX11_device_106 : decode cX11_device 106 = .ok (.aload 7, 2) := by decide +kernel
theorem dX11_device_108 : decode cX11_device 108 = .ok (.invokevirtual 109, 3) := by decide +kernel
theorem dX11_device_111 : decode cX11_device 111 = .ok (.aload_n 0, 1) := by decide +kernel
theorem dX11_device_112 : decode cX11_device 112 = .ok (.getfield 24, 3) := by decide +kernel
theorem dX11_device_115 : decode cX11_device 115 = .ok (.aload_n 0, 1) := by decide +kernel
theorem dX11_device_116 : decode cX11_device 116 = .ok (.getfield 86, 3) := by decide +kernel
theorem dX11_device_119 : decode cX11_device 119 = .ok (.aload 7, 2) := by decide +kernel
theorem dX11_device_121 : decode cX11_device 121 = .ok (.aastore, 1) := by decide +kernel
theorem dX11_device_122 : decode cX11_device 122 = .ok (.aload_n 0, 1) := by decide +kernel
theorem dX11_device_123 : decode cX11_device 123 = .ok (.dup, 1) := by decide +kernel
theorem dX11_device_124 : decode cX11_device 124 = .ok (.getfield 86, 3) := by decide +kernel
theorem dX11_device_127 : decode cX11_device 127 = .ok (.iconst 1, 1) := by decide +kernel
theorem dX11_device_128 : decode cX11_device 128 = .ok (.iadd, 1) := by decide +kernel
theorem dX11_device_129 : decode cX11_device 129 = .ok (.putfield 86, 3) := by decide +kernel
theorem dX11_device_132 : decode cX11_device 132 = .ok (.aload_n 0, 1) := by decide +kernel
theorem dX11_device_133 : decode cX11_device 133 = .ok (.getfield 86, 3) := by decide +kernel
theorem dX11_device_136 : decode cX11_device 136 = .ok (.iconst 1, 1) := by decide +kernel
theorem dX11_device_137 : decode cX11_device 137 = .ok (.isub, 1) := by decide +kernel
theorem dX11_device_138 : decode cX11_device 138 = .ok (.ireturn, 1) := by decide +kernel
theorem dX11_coupler_0 : decode cX11_coupler 0 = .ok (.aload_n 0, 1) := by decide +kernel
theorem dX11_coupler_1 : decode cX11_coupler 1 = .ok (.iload_n 1, 1) := by decide +kernel
theorem dX11_coupler_2 : decode cX11_coupler 2 = .ok (.invokevirtual 82, 3) := by decide +kernel
theorem dX11_coupler_5 : decode cX11_coupler 5 = .ok (.astore_n 3, 1) := by decide +kernel
theorem dX11_coupler_6 : decode cX11_coupler 6 = .ok (.aload_n 0, 1) := by decide +kernel
theorem dX11_coupler_7 : decode cX11_coupler 7 = .ok (.iload_n 2, 1) := by decide +kernel
theorem dX11_coupler_8 : decode cX11_coupler 8 = .ok (.invokevirtual 82, 3) := by decide +kernel
theorem dX11_coupler_11 : decode cX11_coupler 11 = .ok (.astore 4, 2) := by decide +kernel
theorem dX11_coupler_13 : decode cX11_coupler 13 = .ok (.aload_n 0, 1) := by decide +kernel
theorem dX11_coupler_14 : decode cX11_coupler 14 = .ok (.getfield 113, 3) := by decide +kernel
theorem dX11_coupler_17 : decode cX11_coupler 17 = .ok (.iconst 5, 1) := by decide +kernel
theorem dX11_coupler_18 : decode cX11_coupler 18 = .ok (.if_icmp .ge 20, 3) := by decide +kernel
theorem dX11_coupler_21 : decode cX11_coupler 21 = .ok (.aload_n 3, 1) := by decide +kernel
theorem dX11_coupler_22 : decode cX11_coupler 22 = .ok (.ifnull 16, 3) := by decide +kernel
theorem dX11_coupler_25 : decode cX11_coupler 25 = .ok (.aload 4, 2) := by decide +kernel
theorem dX11_coupler_27 : decode cX11_coupler 27 = .ok (.ifnull 11, 3) := by decide +kernel
theorem dX11_coupler_30 : decode cX11_coupler 30 = .ok (.aload_n 3, 1) := by decide +kernel
theorem dX11_coupler_31 : decode cX11_coupler 31 = .ok (.iload_n 2, 1) := by decide +kernel
theorem dX11_coupler_32 : decode cX11_coupler 32 = .ok (.invokevirtual 116, 3) := by decide +kernel
theorem dX11_coupler_35 : decode cX11_coupler 35 = .ok (.ifCond .eq 5, 3) := by decide +kernel
theorem dX11_coupler_38 : decode cX11_coupler 38 = .ok (.iconst (-1), 1) := by decide +kernel
theorem dX11_coupler_39 : decode cX11_coupler 39 = .ok (.ireturn, 1) := by decide +kernel
theorem dX11_coupler_40 : decode cX11_coupler 40 = .ok (.new 28, 3) := by decide +kernel
theorem dX11_coupler_43 : decode cX11_coupler 43 = .ok (.dup, 1) := by decide +kernel
theorem dX11_coupler_44 : decode cX11_coupler 44 = .ok (.invokespecial 119, 3) := by decide +kernel
theorem dX11_coupler_47 : decode cX11_coupler 47 = .ok (.astore 5, 2) := by decide +kernel
theorem dX11_coupler_49 : decode cX11_coupler 49 = .ok (.new 96, 3) := by decide +kernel
theorem dX11_coupler_52 : decode cX11_coupler 52 = .ok (.dup, 1) := by decide +kernel
theorem dX11_coupler_53 : decode cX11_coupler 53 = .ok (.aload_n 0, 1) := by decide +kernel
theorem dX11_coupler_54 : decode cX11_coupler 54 = .ok (.getfield 10, 3) := by decide +kernel
theorem dX11_coupler_57 : decode cX11_coupler 57 = .ok (.invokespecial 98, 3) := by decide +kernel
theorem dX11_coupler_60 : decode cX11_coupler 60 = .ok (.astore 6, 2) := by decide +kernel
theorem dX11_coupler_62 : decode cX11_coupler 62 = .ok (.new 96, 3) := by decide +kernel
theorem dX11_coupler_65 : decode cX11_coupler 65 = .ok (.dup, 1) := by decide +kernel
theorem dX11_coupler_66 : decode cX11_coupler 66 = .ok (.aload_n 0, 1) := by decide +kernel
theorem dX11_coupler_67 : decode cX11_coupler 67 = .ok (.getfield 10, 3) := by decide +kernel
theorem dX11_coupler_70 : decode cX11_coupler 70 = .ok (.invokespecial 98, 3) := by decide +kernel
theorem dX11_coupler_73 : decode cX11_coupler 73 = .ok (.astore 7, 2) := by decide +kernel
theorem dX11_coupler_75 : decode cX11_coupler 75 = .ok (.new 34, 3) := by decide +kernel
theorem dX11_coupler_78 : decode cX11_coupler 78 = .ok (.dup, 1) := by decide +kernel
theorem dX11_coupler_79 : decode cX11_coupler 79 = .ok (.aload 6, 2) := by decide +kernel
theorem dX11_coupler_81 : decode cX11_coupler 81 = .ok (.aload 7, 2) := by decide +kernel
theorem dX11_coupler_83 : decode cX11_coupler 83 = .ok (.aload 5, 2) := by decide +kernel
theorem dX11_coupler_85 : decode cX11_coupler 85 = .ok (.aload 4, 2) := by decide +kernel
theorem dX11_coupler_87 : decode cX11_coupler 87 = .ok (.getfield 120, 3) := by decide +kernel
theorem dX11_coupler_90 : decode cX11_coupler 90 = .ok (.invokespecial 123, 3) := by decide +kernel
theorem dX11_coupler_93 : decode cX11_coupler 93 = .ok (.astore 8, 2) := by decide +kernel
theorem dX11_coupler_95 : decode cX11_coupler 95 = .ok (.new 34, 3) := by decide +kernel
theorem dX11_coupler_98 : decode cX11_coupler 98 = .ok (.dup, 1) := by decide +kernel
theorem dX11_coupler_99 : decode cX11_coupler 99 = .ok (.aload 7, 2) := by decide +kernel
theorem dX11_coupler_101 : decode cX11_coupler 101 = .ok (.aload 6, 2) := by decide +kernel
theorem dX11_coupler_103 : decode cX11_coupler 103 = .ok (.aload 5, 2) := by decide +kernel
theorem dX11_coupler_105 : decode cX11_coupler 105 = .ok (.aload_n 3, 1) := by decide +kernel
theorem dX11_coupler_106 : decode cX11_coupler 106 = .ok (.getfield 120, 3) := by decide +kernel
theorem dX11_coupler_109 : decode cX11_coupler 109 = .ok (.invokespecial 123, 3) := by decide +kernel
theorem dX11_coupler_112 : decode cX11_coupler 112 = .ok (.astore 9, 2) := by decide +kernel
theorem dX11_coupler_114 : decode cX11_coupler 114 = .ok (.aload_n 0, 1) := by decide +kernel
theorem dX11_coupler_115 : decode cX11_coupler 115 = .ok (.iload_n 1, 1) := by decide +kernel
theorem dX11_coupler_116 : decode cX11_coupler 116 = .ok (.aload_n 3, 1) := by decide +kernel
theorem dX11_coupler_117 : decode cX11_coupler 117 = .ok (.getfield 120, 3) := by decide +kernel
theorem dX11_coupler_120 : decode cX11_coupler 120 = .ok (.iload_n 2, 1) := by decide +kernel
theorem dX11_coupler_121 : decode cX11_coupler 121 = .ok (.aload 4, 2) := by decide +kernel
theorem dX11_coupler_123 : decode cX11_coupler 123 = .ok (.getfield 120, 3) := by decide +kernel
theorem dX11_coupler_126 : decode cX11_coupler 126 = .ok (.invokevirtual 126, 3) := by decide +kernel
theorem dX11_coupler_129 : decode cX11_coupler 129 = .ok (.aload_n 3, 1) := by decide +kernel
theorem dX11_coupler_130 : decode cX11_coupler 130 = .ok (.aload 8, 2) := by decide +kernel
theorem dX11_coupler_132 : decode cX11_coupler 132 = .ok (.invokevirtual 130, 3) := by decide +kernel
theorem dX11_coupler_135 : decode cX11_coupler 135 = .ok (.aload 4, 2) := by decide +kernel
theorem dX11_coupler_137 : decode cX11_coupler 137 = .ok (.aload 9, 2) := by decide +kernel
theorem dX11_coupler_139 : decode cX11_coupler 139 = .ok (.invokevirtual 130, 3) := by decide +kernel
theorem dX11_coupler_142 : decode cX11_coupler 142 = .ok (.aload_n 0, 1) := by decide +kernel
theorem dX11_coupler_143 : decode cX11_coupler 143 = .ok (.getfield 30, 3) := by decide +kernel
theorem dX11_coupler_146 : decode cX11_coupler 146 = .ok (.aload_n 0, 1) := by decide +kernel
theorem dX11_coupler_147 : decode cX11_coupler 147 = .ok (.getfield 113, 3) := by decide +kernel
theorem dX11_coupler_150 : decode cX11_coupler 150 = .ok (.aload 5, 2) := by decide +kernel
theorem dX11_coupler_152 : decode cX11_coupler 152 = .ok (.aastore, 1) := by decide +kernel
theorem dX11_coupler_153 : decode cX11_coupler 153 = .ok (.aload_n 0, 1) := by decide +kernel
theorem dX11_coupler_154 : decode cX11_coupler 154 = .ok (.getfield 36, 3) := by decide +kernel
theorem dX11_coupler_157 : decode cX11_coupler 157 = .ok (.iconst 2, 1) := by decide +kernel
theorem dX11_coupler_158 : decode cX11_coupler 158 = .ok (.aload_n 0, 1) := by decide +kernel
theorem dX11_coupler_159 : decode cX11_coupler 159 = .ok (.getfield 113, 3) := by decide +kernel
theorem dX11_coupler_162 : decode cX11_coupler 162 = .ok (.imul, 1) := by decide +kernel
theorem dX11_coupler_163 : decode cX11_coupler 163 = .ok (.aload 8, 2) := by decide +kernel
theorem dX11_coupler_165 : decode cX11_coupler 165 = .ok (.aastore, 1) := by decide +kernel
theorem dX11_coupler_166 : decode cX11_coupler 166 = .ok (.aload_n 0, 1) := by decide +kernel
theorem dX11_coupler_167 : decode cX11_coupler 167 = .ok (.getfield 36, 3) := by decide +kernel
theorem dX11_coupler_170 : decode cX11_coupler 170 = .ok (.iconst 2, 1) := by decide +kernel
theorem dX11_coupler_171 : decode cX11_coupler 171 = .ok (.aload_n 0, 1) := by decide +kernel
theorem dX11_coupler_172 : decode cX11_coupler 172 = .ok (.getfield 113, 3) := by decide +kernel
theorem dX11_coupler_175 : decode cX11_coupler 175 = .ok (.imul, 1) := by decide +kernel
theorem dX11_coupler_176 : decode cX11_coupler 176 = .ok (.iconst 1, 1) := by decide +kernel
theorem dX11_coupler_177 : decode cX11_coupler 177 = .ok (.iadd, 1) := by decide +kernel
theorem dX11_coupler_178 : decode cX11_coupler 178 = .ok (.aload 9, 2) := by decide +kernel
theorem dX11_coupler_180 : decode cX11_coupler 180 = .ok (.aastore, 1) := by decide +kernel
theorem dX11_coupler_181 : decode cX11_coupler 181 = .ok (.aload_n 0, 1) := by decide +kernel
theorem dX11_coupler_182 : decode cX11_coupler 182 = .ok (.dup, 1) := by decide +kernel
theorem dX11_coupler_183 : decode cX11_coupler 183 = .ok (.getfield 113, 3) := by decide +kernel
theorem dX11_coupler_186 : decode cX11_coupler 186 = .ok (.iconst 1, 1) := by decide +kernel
theorem dX11_coupler_187 : decode cX11_coupler 187 = .ok (.iadd, 1) := by decide +kernel
theorem dX11_coupler_188 : decode cX11_coupler 188 = .ok (.putfield 113, 3) := by decide +kernel
theorem dX11_coupler_191 : decode cX11_coupler 191 = .ok (.aload_n 0, 1) := by decide +kernel
theorem dX11_coupler_192 : decode cX11_coupler 192 = .ok (.getfield 113, 3) := by decide +kernel
theorem dX11_coupler_195 : decode cX11_coupler 195 = .ok (.iconst 1, 1) := by decide +kernel
theorem dX11_coupler_196 : decode cX11_coupler 196 = .ok (.isub, 1) := by decide +kernel
theorem dX11_coupler_197 : decode cX11_coupler 197 = .ok (.ireturn, 1) := by decide +kernel
theorem dX11_mode_0 : decode cX11_mode 0 = .ok (.aload_n 0, 1) := by decide +kernel
theorem dX11_mode_1 : decode cX11_mode 1 = .ok (.iload_n 1, 1) := by decide +kernel
theorem dX11_mode_2 : decode cX11_mode 2 = .ok (.invokevirtual 134, 3) := by decide +kernel
theorem dX11_mode_5 : decode cX11_mode 5 = .ok (.astore_n 3, 1) := by decide +kernel
theorem dX11_mode_6 : decode cX11_mode 6 = .ok (.aload_n 3, 1) := by decide +kernel
theorem dX11_mode_7 : decode cX11_mode 7 = .ok (.ifnull 12, 3) := by decide +kernel
theorem dX11_mode_10 : decode cX11_mode 10 = .ok (.iload_n 2, 1) := by decide +kernel
theorem dX11_mode_11 : decode cX11_mode 11 = .ok (.iconst 0, 1) := by decide +kernel
theorem dX11_mode_12 : decode cX11_mode 12 = .ok (.iconst 2, 1) := by decide +kernel
theorem dX11_mode_13 : decode cX11_mode 13 = .ok (.invokestatic 71, 3) := by decide +kernel
theorem dX11_mode_16 : decode cX11_mode 16 = .ok (.ifCond .ne 5, 3) := by decide +kernel
theorem dX11_mode_19 : decode cX11_mode 19 = .ok (.iconst 0, 1) := by decide +kernel
theorem dX11_mode_20 : decode cX11_mode 20 = .ok (.ireturn, 1) := by decide +kernel
theorem dX11_mode_21 : decode cX11_mode 21 = .ok (.aload_n 3, 1) := by decide +kernel
theorem dX11_mode_22 : decode cX11_mode 22 = .ok (.iload_n 2, 1) := by decide +kernel
theorem dX11_mode_23 : decode cX11_mode 23 = .ok (.putfield 138, 3) := by decide +kernel
theorem dX11_mode_26 : decode cX11_mode 26 = .ok (.iconst 1, 1) := by decide +kernel
theorem dX11_mode_27 : decode cX11_mode 27 = .ok (.ireturn, 1) := by decide +kernel
theorem dX11_filterAt_0 : decode cX11_filterAt 0 = .ok (.iload_n 1, 1) := by decide +kernel
theorem dX11_filterAt_1 : decode cX11_filterAt 1 = .ok (.iconst 0, 1) := by decide +kernel
theorem dX11_filterAt_2 : decode cX11_filterAt 2 = .ok (.aload_n 0, 1) := by decide +kernel
theorem dX11_filterAt_3 : decode cX11_filterAt 3 = .ok (.getfield 113, 3) := by decide +kernel
theorem dX11_filterAt_6 : decode cX11_filterAt 6 = .ok (.iconst 1, 1) := by decide +kernel
theorem dX11_filterAt_7 : decode cX11_filterAt 7 = .ok (.isub, 1) := by decide +kernel
theorem dX11_filterAt_8 : decode cX11_filterAt 8 = .ok (.invokestatic 71, 3) := by decide +kernel
theorem dX11_filterAt_11 : decode cX11_filterAt 11 = .ok (.ifCond .eq 12, 3) := by decide +kernel
theorem dX11_filterAt_14 : decode cX11_filterAt 14 = .ok (.aload_n 0, 1) := by decide +kernel
theorem dX11_filterAt_15 : decode cX11_filterAt 15 = .ok (.getfield 30, 3) := by decide +kernel
theorem dX11_filterAt_18 : decode cX11_filterAt 18 = .ok (.iload_n 1, 1) := by decide +kernel
theorem dX11_filterAt_19 : decode cX11_filterAt 19 = .ok (.aaload, 1) := by decide +kernel
theorem dX11_filterAt_20 : decode cX11_filterAt 20 = .ok (.goto 4, 3) := by decide +kernel
theorem dX11_filterAt_23 : decode cX11_filterAt 23 = .ok (.aconst_null, 1) := by decide +kernel
theorem dX11_filterAt_24 : decode cX11_filterAt 24 = .ok (.areturn, 1) := by decide +kernel
theorem dX11_filter_0 : decode cX11_filter 0 = .ok (.aload_n 0, 1) := by decide +kernel
theorem dX11_filter_1 : decode cX11_filter 1 = .ok (.iload_n 1, 1) := by decide +kernel
theorem dX11_filter_2 : decode cX11_filter 2 = .ok (.invokevirtual 134, 3) := by decide +kernel
theorem dX11_filter_5 : decode cX11_filter 5 = .ok (.astore 4, 2) := by decide +kernel
theorem dX11_filter_7 : decode cX11_filter 7 = .ok (.aload 4, 2) := by decide +kernel
theorem dX11_filter_9 : decode cX11_filter 9 = .ok (.ifnull 13, 3) := by decide +kernel
theorem dX11_filter_12 : decode cX11_filter 12 = .ok (.iload_n 2, 1) := by decide +kernel
theorem dX11_filter_13 : decode cX11_filter 13 = .ok (.iconst 1, 1) := by decide +kernel
theorem dX11_filter_14 : decode cX11_filter 14 = .ok (.ldc 141, 2) := by decide +kernel
theorem dX11_filter_16 : decode cX11_filter 16 = .ok (.invokestatic 71, 3) := by decide +kernel
theorem dX11_filter_19 : decode cX11_filter 19 = .ok (.ifCond .ne 5, 3) := by decide +kernel
theorem dX11_filter_22 : decode cX11_filter 22 = .ok (.iconst 0, 1) := by decide +kernel
theorem dX11_filter_23 : decode cX11_filter 23 = .ok (.ireturn, 1) := by decide +kernel
theorem dX11_filter_24 : decode cX11_filter 24 = .ok (.aload 4, 2) := by decide +kernel
theorem dX11_filter_26 : decode cX11_filter 26 = .ok (.iload_n 2, 1) := by decide +kernel
theorem dX11_filter_27 : decode cX11_filter 27 = .ok (.iload_n 3, 1) := by decide +kernel
theorem dX11_filter_28 : decode cX11_filter 28 = .ok (.invokevirtual 142, 3) := by decide +kernel
theorem dX11_filter_31 : decode cX11_filter 31 = .ok (.ireturn, 1) := by decide +kernel
theorem dX11_object_0 : decode cX11_object 0 = .ok (.aload_n 0, 1) := by decide +kernel
theorem dX11_object_1 : decode cX11_object 1 = .ok (.iload_n 1, 1) := by decide +kernel
theorem dX11_object_2 : decode cX11_object 2 = .ok (.invokevirtual 146, 3) := by decide +kernel
theorem dX11_object_5 : decode cX11_object 5 = .ok (.astore 5, 2) := by decide +kernel
theorem dX11_object_7 : decode cX11_object 7 = .ok (.aload 5, 2) := by decide +kernel
theorem dX11_object_9 : decode cX11_object 9 = .ok (.ifnull 37, 3) := by decide +kernel
theorem dX11_object_12 : decode cX11_object 12 = .ok (.iload_n 2, 1) := by decide +kernel
theorem dX11_object_13 : decode cX11_object 13 = .ok (.iconst 0, 1) := by decide +kernel
theorem dX11_object_14 : decode cX11_object 14 = .ok (.getstatic 150, 3) := by decide +kernel
theorem dX11_object_17 : decode cX11_object 17 = .ok (.arraylength, 1) := by decide +kernel
theorem dX11_object_18 : decode cX11_object 18 = .ok (.iconst 1, 1) := by decide +kernel
theorem dX11_object_19 : decode cX11_object 19 = .ok (.isub, 1) := by decide +kernel
theorem dX11_object_20 : decode cX11_object 20 = .ok (.invokestatic 71, 3) := by decide +kernel
theorem dX11_object_23 : decode cX11_object 23 = .ok (.ifCond .eq 23, 3) := by decide +kernel
theorem dX11_object_26 : decode cX11_object 26 = .ok (.iload_n 3, 1) := by decide +kernel
theorem dX11_object_27 : decode cX11_object 27 = .ok (.iconst 0, 1) := by decide +kernel
theorem dX11_object_28 : decode cX11_object 28 = .ok (.bipush 31, 2) := by decide +kernel
theorem dX11_object_30 : decode cX11_object 30 = .ok (.invokestatic 71, 3) := by decide +kernel
theorem dX11_object_33 : decode cX11_object 33 = .ok (.ifCond .eq 13, 3) := by decide +kernel
theorem dX11_object_36 : decode cX11_object 36 = .ok (.iload 4, 2) := by decide +kernel
theorem dX11_object_38 : decode cX11_object 38 = .ok (.iconst 0, 1) := by decide +kernel
theorem dX11_object_39 : decode cX11_object 39 = .ok (.iconst 3, 1) := by decide +kernel
theorem dX11_object_40 : decode cX11_object 40 = .ok (.invokestatic 71, 3) := by decide +kernel
theorem dX11_object_43 : decode cX11_object 43 = .ok (.ifCond .ne 5, 3) := by decide +kernel
theorem dX11_object_46 : decode cX11_object 46 = .ok (.iconst (-1), 1) := by decide +kernel
theorem dX11_object_47 : decode cX11_object 47 = .ok (.ireturn, 1) := by decide +kernel
theorem dX11_object_48 : decode cX11_object 48 = .ok (.aload 5, 2) := by decide +kernel
theorem dX11_object_50 : decode cX11_object 50 = .ok (.getstatic 150, 3) := by decide +kernel
theorem dX11_object_53 : decode cX11_object 53 = .ok (.iload_n 2, 1) := by decide +kernel
theorem dX11_object_54 : decode cX11_object 54 = .ok (.iaload, 1) := by decide +kernel
theorem dX11_object_55 : decode cX11_object 55 = .ok (.iload_n 3, 1) := by decide +kernel
theorem dX11_object_56 : decode cX11_object 56 = .ok (.iload 4, 2) := by decide +kernel
theorem dX11_object_58 : decode cX11_object 58 = .ok (.invokevirtual 153, 3) := by decide +kernel
theorem dX11_object_61 : decode cX11_object 61 = .ok (.ireturn, 1) := by decide +kernel
theorem dX11_deviceAt_0 : decode cX11_deviceAt 0 = .ok (.iload_n 1, 1) := by decide +kernel
theorem dX11_deviceAt_1 : decode cX11_deviceAt 1 = .ok (.iconst 0, 1) := by decide +kernel
theorem dX11_deviceAt_2 : decode cX11_deviceAt 2 = .ok (.aload_n 0, 1) := by decide +kernel
theorem dX11_deviceAt_3 : decode cX11_deviceAt 3 = .ok (.getfield 86, 3) := by decide +kernel
theorem dX11_deviceAt_6 : decode cX11_deviceAt 6 = .ok (.iconst 1, 1) := by decide +kernel
theorem dX11_deviceAt_7 : decode cX11_deviceAt 7 = .ok (.isub, 1) := by decide +kernel
theorem dX11_deviceAt_8 : decode cX11_deviceAt 8 = .ok (.invokestatic 71, 3) := by decide +kernel
theorem dX11_deviceAt_11 : decode cX11_deviceAt 11 = .ok (.ifCond .eq 12, 3) := by decide +kernel
theorem dX11_deviceAt_14 : decode cX11_deviceAt 14 = .ok (.aload_n 0, 1) := by decide +kernel
theorem dX11_deviceAt_15 : decode cX11_deviceAt 15 = .ok (.getfield 24, 3) := by decide +kernel
theorem dX11_deviceAt_18 : decode cX11_deviceAt 18 = .ok (.iload_n 1, 1) := by decide +kernel
theorem dX11_deviceAt_19 : decode cX11_deviceAt 19 = .ok (.aaload, 1) := by decide +kernel
theorem dX11_deviceAt_20 : decode cX11_deviceAt 20 = .ok (.goto 4, 3) := by decide +kernel
theorem dX11_deviceAt_23 : decode cX11_deviceAt 23 = .ok (.aconst_null, 1) := by decide +kernel
theorem dX11_deviceAt_24 : decode cX11_deviceAt 24 = .ok (.areturn, 1) := by decide +kernel
theorem dX11_flags_0 : decode cX11_flags 0 = .ok (.aload_n 0, 1) := by decide +kernel
theorem dX11_flags_1 : decode cX11_flags 1 = .ok (.iload_n 1, 1) := by decide +kernel
theorem dX11_flags_2 : decode cX11_flags 2 = .ok (.iload_n 2, 1) := by decide +kernel
theorem dX11_flags_3 : decode cX11_flags 3 = .ok (.invokevirtual 157, 3) := by decide +kernel
theorem dX11_flags_6 : decode cX11_flags 6 = .ok (.astore 4, 2) := by decide +kernel
theorem dX11_flags_8 : decode cX11_flags 8 = .ok (.aload 4, 2) := by decide +kernel
theorem dX11_flags_10 : decode cX11_flags 10 = .ok (.ifnull 13, 3) := by decide +kernel
theorem dX11_flags_13 : decode cX11_flags 13 = .ok (.iload_n 3, 1) := by decide +kernel
theorem dX11_flags_14 : decode cX11_flags 14 = .ok (.iconst 0, 1) := by decide +kernel
theorem dX11_flags_15 : decode cX11_flags 15 = .ok (.bipush 31, 2) := by decide +kernel
theorem dX11_flags_17 : decode cX11_flags 17 = .ok (.invokestatic 71, 3) := by decide +kernel
theorem dX11_flags_20 : decode cX11_flags 20 = .ok (.ifCond .ne 5, 3) := by decide +kernel
theorem dX11_flags_23 : decode cX11_flags 23 = .ok (.iconst 0, 1) := by decide +kernel
theorem dX11_flags_24 : decode cX11_flags 24 = .ok (.ireturn, 1) := by decide +kernel
theorem dX11_flags_25 : decode cX11_flags 25 = .ok (.aload 4, 2) := by decide +kernel
theorem dX11_flags_27 : decode cX11_flags 27 = .ok (.iload_n 3, 1) := by decide +kernel
theorem dX11_flags_28 : decode cX11_flags 28 = .ok (.putfield 161, 3) := by decide +kernel
theorem dX11_flags_31 : decode cX11_flags 31 = .ok (.iconst 1, 1) := by decide +kernel
theorem dX11_flags_32 : decode cX11_flags 32 = .ok (.ireturn, 1) := by decide +kernel
theorem dX11_objectAt_0 : decode cX11_objectAt 0 = .ok (.aload_n 0, 1) := by decide +kernel
theorem dX11_objectAt_1 : decode cX11_objectAt 1 = .ok (.iload_n 1, 1) := by decide +kernel
theorem dX11_objectAt_2 : decode cX11_objectAt 2 = .ok (.invokevirtual 146, 3) := by decide +kernel
theorem dX11_objectAt_5 : decode cX11_objectAt 5 = .ok (.astore_n 3, 1) := by decide +kernel
theorem dX11_objectAt_6 : decode cX11_objectAt 6 = .ok (.aload_n 3, 1) := by decide +kernel
theorem dX11_objectAt_7 : decode cX11_objectAt 7 = .ok (.ifnonnull 7, 3) := by decide +kernel
theorem dX11_objectAt_10 : decode cX11_objectAt 10 = .ok (.aconst_null, 1) := by decide +kernel
theorem dX11_objectAt_11 : decode cX11_objectAt 11 = .ok (.goto 8, 3) := by decide +kernel
theorem dX11_objectAt_14 : decode cX11_objectAt 14 = .ok (.aload_n 3, 1) := by decide +kernel
theorem dX11_objectAt_15 : decode cX11_objectAt 15 = .ok (.iload_n 2, 1) := by decide +kernel
theorem dX11_objectAt_16 : decode cX11_objectAt 16 = .ok (.invokevirtual 327, 3) := by decide +kernel
theorem dX11_objectAt_19 : decode cX11_objectAt 19 = .ok (.areturn, 1) := by decide +kernel
theorem dX11_link_0 : decode cX11_link 0 = .ok (.aload_n 0, 1) := by decide +kernel
theorem dX11_link_1 : decode cX11_link 1 = .ok (.iload_n 1, 1) := by decide +kernel
theorem dX11_link_2 : decode cX11_link 2 = .ok (.invokevirtual 146, 3) := by decide +kernel
theorem dX11_link_5 : decode cX11_link 5 = .ok (.astore 4, 2) := by decide +kernel
theorem dX11_link_7 : decode cX11_link 7 = .ok (.aload 4, 2) := by decide +kernel
theorem dX11_link_9 : decode cX11_link 9 = .ok (.ifnull 27, 3) := by decide +kernel
theorem dX11_link_12 : decode cX11_link 12 = .ok (.iload_n 3, 1) := by decide +kernel
theorem dX11_link_13 : decode cX11_link 13 = .ok (.iconst 1, 1) := by decide +kernel
theorem dX11_link_14 : decode cX11_link 14 = .ok (.ldc 141, 2) := by decide +kernel
theorem dX11_link_16 : decode cX11_link 16 = .ok (.invokestatic 71, 3) := by decide +kernel
theorem dX11_link_19 : decode cX11_link 19 = .ok (.ifCond .eq 17, 3) := by decide +kernel
theorem dX11_link_22 : decode cX11_link 22 = .ok (.aload 4, 2) := by decide +kernel
theorem dX11_link_24 : decode cX11_link 24 = .ok (.iload_n 2, 1) := by decide +kernel
theorem dX11_link_25 : decode cX11_link 25 = .ok (.iload_n 3, 1) := by decide +kernel
theorem dX11_link_26 : decode cX11_link 26 = .ok (.invokevirtual 166, 3) := by decide +kernel
theorem dX11_link_29 : decode cX11_link 29 = .ok (.ifCond .eq 7, 3) := by decide +kernel
theorem dX11_link_32 : decode cX11_link 32 = .ok (.iconst 1, 1) := by decide +kernel
theorem dX11_link_33 : decode cX11_link 33 = .ok (.goto 4, 3) := by decide +kernel
theorem dX11_link_36 : decode cX11_link 36 = .ok (.iconst 0, 1) := by decide +kernel
theorem dX11_link_37 : decode cX11_link 37 = .ok (.ireturn, 1) := by decide +kernel
theorem dX11_set_0 : decode cX11_set 0 = .ok (.aload_n 0, 1) := by decide +kernel
theorem dX11_set_1 : decode cX11_set 1 = .ok (.iload_n 1, 1) := by decide +kernel
theorem dX11_set_2 : decode cX11_set 2 = .ok (.invokevirtual 146, 3) := by decide +kernel
theorem dX11_set_5 : decode cX11_set 5 = .ok (.astore 4, 2) := by decide +kernel
theorem dX11_set_7 : decode cX11_set 7 = .ok (.aload 4, 2) := by decide +kernel
theorem dX11_set_9 : decode cX11_set 9 = .ok (.ifnonnull 7, 3) := by decide +kernel
theorem dX11_set_12 : decode cX11_set 12 = .ok (.iconst (-1), 1) := by decide +kernel
theorem dX11_set_13 : decode cX11_set 13 = .ok (.goto 10, 3) := by decide +kernel
theorem dX11_set_16 : decode cX11_set 16 = .ok (.aload 4, 2) := by decide +kernel
theorem dX11_set_18 : decode cX11_set 18 = .ok (.iload_n 2, 1) := by decide +kernel
theorem dX11_set_19 : decode cX11_set 19 = .ok (.iload_n 3, 1) := by decide +kernel
theorem dX11_set_20 : decode cX11_set 20 = .ok (.invokevirtual 170, 3) := by decide +kernel
theorem dX11_set_23 : decode cX11_set 23 = .ok (.ireturn, 1) := by decide +kernel
theorem dX11_ask_0 : decode cX11_ask 0 = .ok (.aload_n 0, 1) := by decide +kernel
theorem dX11_ask_1 : decode cX11_ask 1 = .ok (.iload_n 1, 1) := by decide +kernel
theorem dX11_ask_2 : decode cX11_ask 2 = .ok (.invokevirtual 146, 3) := by decide +kernel
theorem dX11_ask_5 : decode cX11_ask 5 = .ok (.astore_n 3, 1) := by decide +kernel
theorem dX11_ask_6 : decode cX11_ask 6 = .ok (.aload_n 3, 1) := by decide +kernel
theorem dX11_ask_7 : decode cX11_ask 7 = .ok (.ifnonnull 7, 3) := by decide +kernel
theorem dX11_ask_10 : decode cX11_ask 10 = .ok (.iconst (-1), 1) := by decide +kernel
theorem dX11_ask_11 : decode cX11_ask 11 = .ok (.goto 8, 3) := by decide +kernel
theorem dX11_ask_14 : decode cX11_ask 14 = .ok (.aload_n 3, 1) := by decide +kernel
theorem dX11_ask_15 : decode cX11_ask 15 = .ok (.iload_n 2, 1) := by decide +kernel
theorem dX11_ask_16 : decode cX11_ask 16 = .ok (.invokevirtual 174, 3) := by decide +kernel
theorem dX11_ask_19 : decode cX11_ask 19 = .ok (.ireturn, 1) := by decide +kernel
theorem dX11_value_0 : decode cX11_value 0 = .ok (.aload_n 0, 1) := by decide +kernel
theorem dX11_value_1 : decode cX11_value 1 = .ok (.iload_n 1, 1) := by decide +kernel
theorem dX11_value_2 : decode cX11_value 2 = .ok (.iload_n 2, 1) := by decide +kernel
theorem dX11_value_3 : decode cX11_value 3 = .ok (.invokevirtual 157, 3) := by decide +kernel
theorem dX11_value_6 : decode cX11_value 6 = .ok (.astore_n 3, 1) := by decide +kernel
theorem dX11_value_7 : decode cX11_value 7 = .ok (.aload_n 3, 1) := by decide +kernel
theorem dX11_value_8 : decode cX11_value 8 = .ok (.ifnonnull 9, 3) := by decide +kernel
theorem dX11_value_11 : decode cX11_value 11 = .ok (.ldc2_w 177, 3) := by decide +kernel
theorem dX11_value_14 : decode cX11_value 14 = .ok (.goto 12, 3) := by decide +kernel
theorem dX11_value_17 : decode cX11_value 17 = .ok (.aload_n 3, 1) := by decide +kernel
theorem dX11_value_18 : decode cX11_value 18 = .ok (.getfield 179, 3) := by decide +kernel
theorem dX11_value_21 : decode cX11_value 21 = .ok (.i2l, 1) := by decide +kernel
theorem dX11_value_22 : decode cX11_value 22 = .ok (.ldc2_w 182, 3) := by decide +kernel
theorem dX11_value_25 : decode cX11_value 25 = .ok (.land, 1) := by decide +kernel
theorem dX11_value_26 : decode cX11_value 26 = .ok (.lreturn, 1) := by decide +kernel
theorem dX11_updated_0 : decode cX11_updated 0 = .ok (.aload_n 0, 1) := by decide +kernel
theorem dX11_updated_1 : decode cX11_updated 1 = .ok (.iload_n 1, 1) := by decide +kernel
theorem dX11_updated_2 : decode cX11_updated 2 = .ok (.iload_n 2, 1) := by decide +kernel
theorem dX11_updated_3 : decode cX11_updated 3 = .ok (.invokevirtual 157, 3) := by decide +kernel
theorem dX11_updated_6 : decode cX11_updated 6 = .ok (.astore_n 3, 1) := by decide +kernel
theorem dX11_updated_7 : decode cX11_updated 7 = .ok (.aload_n 3, 1) := by decide +kernel
theorem dX11_updated_8 : decode cX11_updated 8 = .ok (.ifnonnull 7, 3) := by decide +kernel
theorem dX11_updated_11 : decode cX11_updated 11 = .ok (.iconst (-1), 1) := by decide +kernel
theorem dX11_updated_12 : decode cX11_updated 12 = .ok (.goto 7, 3) := by decide +kernel
theorem dX11_updated_15 : decode cX11_updated 15 = .ok (.aload_n 3, 1) := by decide +kernel
theorem dX11_updated_16 : decode cX11_updated 16 = .ok (.getfield 184, 3) := by decide +kernel
theorem dX11_updated_19 : decode cX11_updated 19 = .ok (.ireturn, 1) := by decide +kernel
theorem dX11_hundredths_0 : decode cX11_hundredths 0 = .ok (.aload_n 0, 1) := by decide +kernel
theorem dX11_hundredths_1 : decode cX11_hundredths 1 = .ok (.iload_n 1, 1) := by decide +kernel
theorem dX11_hundredths_2 : decode cX11_hundredths 2 = .ok (.iload_n 2, 1) := by decide +kernel
theorem dX11_hundredths_3 : decode cX11_hundredths 3 = .ok (.invokevirtual 157, 3) := by decide +kernel
theorem dX11_hundredths_6 : decode cX11_hundredths 6 = .ok (.astore_n 3, 1) := by decide +kernel
theorem dX11_hundredths_7 : decode cX11_hundredths 7 = .ok (.aload_n 3, 1) := by decide +kernel
theorem dX11_hundredths_8 : decode cX11_hundredths 8 = .ok (.ifnull 12, 3) := by decide +kernel
theorem dX11_hundredths_11 : decode cX11_hundredths 11 = .ok (.aload_n 3, 1) := by decide +kernel
theorem dX11_hundredths_12 : decode cX11_hundredths 12 = .ok (.getfield 187, 3) := by decide +kernel
theorem dX11_hundredths_15 : decode cX11_hundredths 15 = .ok (.bipush 16, 2) := by decide +kernel
theorem dX11_hundredths_17 : decode cX11_hundredths 17 = .ok (.if_icmp .eq 7, 3) := by decide +kernel
theorem dX11_hundredths_20 : decode cX11_hundredths 20 = .ok (.ldc2_w 192, 3) := by decide +kernel
theorem dX11_hundredths_23 : decode cX11_hundredths 23 = .ok (.lreturn, 1) := by decide +kernel
theorem dX11_hundredths_24 : decode cX11_hundredths 24 = .ok (.aload_n 3, 1) := by decide +kernel
theorem dX11_hundredths_25 : decode cX11_hundredths 25 = .ok (.getfield 179, 3) := by decide +kernel
theorem dX11_hundredths_28 : decode cX11_hundredths 28 = .ok (.bipush 15, 2) := by decide +kernel
theorem dX11_hundredths_30 : decode cX11_hundredths 30 = .ok (.ishr, 1) := by decide +kernel
theorem dX11_hundredths_31 : decode cX11_hundredths 31 = .ok (.iconst 1, 1) := by decide +kernel
theorem dX11_hundredths_32 : decode cX11_hundredths 32 = .ok (.iand, 1) := by decide +kernel
theorem dX11_hundredths_33 : decode cX11_hundredths 33 = .ok (.istore 4, 2) := by decide +kernel
theorem dX11_hundredths_35 : decode cX11_hundredths 35 = .ok (.aload_n 3, 1) := by decide +kernel
theorem dX11_hundredths_36 : decode cX11_hundredths 36 = .ok (.getfield 179, 3) := by decide +kernel
theorem dX11_hundredths_39 : decode cX11_hundredths 39 = .ok (.bipush 11, 2) := by decide +kernel
theorem dX11_hundredths_41 : decode cX11_hundredths 41 = .ok (.ishr, 1) := by decide +kernel
theorem dX11_hundredths_42 : decode cX11_hundredths 42 = .ok (.bipush 15, 2) := by decide +kernel
theorem dX11_hundredths_44 : decode cX11_hundredths 44 = .ok (.iand, 1) := by decide +kernel
theorem dX11_hundredths_45 : decode cX11_hundredths 45 = .ok (.istore 5, 2) := by decide +kernel
theorem dX11_hundredths_47 : decode cX11_hundredths 47 = .ok (.aload_n 3, 1) := by decide +kernel
theorem dX11_hundredths_48 : decode cX11_hundredths 48 = .ok (.getfield 179, 3) := by decide +kernel
theorem dX11_hundredths_51 : decode cX11_hundredths 51 = .ok (.sipush 2047, 3) := by decide +kernel
theorem dX11_hundredths_54 : decode cX11_hundredths 54 = .ok (.iand, 1) := by decide +kernel
theorem dX11_hundredths_55 : decode cX11_hundredths 55 = .ok (.sipush 2048, 3) := by decide +kernel
theorem dX11_hundredths_58 : decode cX11_hundredths 58 = .ok (.iload 4, 2) := by decide +kernel
theorem dX11_hundredths_60 : decode cX11_hundredths 60 = .ok (.imul, 1) := by decide +kernel
theorem dX11_hundredths_61 : decode cX11_hundredths 61 = .ok (.isub, 1) := by decide +kernel
theorem dX11_hundredths_62 : decode cX11_hundredths 62 = .ok (.i2l, 1) := by decide +kernel
theorem dX11_hundredths_63 : decode cX11_hundredths 63 = .ok (.lstore 6, 2) := by decide +kernel
theorem dX11_hundredths_65 : decode cX11_hundredths 65 = .ok (.lload 6, 2) := by decide +kernel
theorem dX11_hundredths_67 : decode cX11_hundredths 67 = .ok (.lconst 1, 1) := by decide +kernel
theorem dX11_hundredths_68 : decode cX11_hundredths 68 = .ok (.iload 5, 2) := by decide +kernel
theorem dX11_hundredths_70 : decode cX11_hundredths 70 = .ok (.lshl, 1) := by decide +kernel
theorem dX11_hundredths_71 : decode cX11_hundredths 71 = .ok (.lmul, 1) := by decide +kernel
theorem dX11_hundredths_72 : decode cX11_hundredths 72 = .ok (.lreturn, 1) := by decide +kernel
theorem dX11_point_0 : decode cX11_point 0 = .ok (.aload_n 0, 1) := by decide +kernel
theorem dX11_point_1 : decode cX11_point 1 = .ok (.iload_n 1, 1) := by decide +kernel
theorem dX11_point_2 : decode cX11_point 2 = .ok (.iload_n 2, 1) := by decide +kernel
theorem dX11_point_3 : decode cX11_point 3 = .ok (.invokevirtual 157, 3) := by decide +kernel
theorem dX11_point_6 : decode cX11_point 6 = .ok (.astore 4, 2) := by decide +kernel
theorem dX11_point_8 : decode cX11_point 8 = .ok (.aload 4, 2) := by decide +kernel
theorem dX11_point_10 : decode cX11_point 10 = .ok (.ifnull 13, 3) := by decide +kernel
theorem dX11_point_13 : decode cX11_point 13 = .ok (.aload 4, 2) := by decide +kernel
theorem dX11_point_15 : decode cX11_point 15 = .ok (.getfield 187, 3) := by decide +kernel
theorem dX11_point_18 : decode cX11_point 18 = .ok (.bipush 16, 2) := by decide +kernel
theorem dX11_point_20 : decode cX11_point 20 = .ok (.if_icmp .eq 5, 3) := by decide +kernel
theorem dX11_point_23 : decode cX11_point 23 = .ok (.iconst (-1), 1) := by decide +kernel
theorem dX11_point_24 : decode cX11_point 24 = .ok (.ireturn, 1) := by decide +kernel
theorem dX11_point_25 : decode cX11_point 25 = .ok (.iload_n 3, 1) := by decide +kernel
theorem dX11_point_26 : decode cX11_point 26 = .ok (.invokestatic 194, 3) := by decide +kernel
theorem dX11_point_29 : decode cX11_point 29 = .ok (.istore 5, 2) := by decide +kernel
theorem dX11_point_31 : decode cX11_point 31 = .ok (.iload 5, 2) := by decide +kernel
theorem dX11_point_33 : decode cX11_point 33 = .ok (.iconst (-1), 1) := by decide +kernel
theorem dX11_point_34 : decode cX11_point 34 = .ok (.if_icmp .ne 7, 3) := by decide +kernel
theorem dX11_point_37 : decode cX11_point 37 = .ok (.iconst (-1), 1) := by decide +kernel
theorem dX11_point_38 : decode cX11_point 38 = .ok (.goto 11, 3) := by decide +kernel
theorem dX11_point_41 : decode cX11_point 41 = .ok (.aload_n 0, 1) := by decide +kernel
theorem dX11_point_42 : decode cX11_point 42 = .ok (.iload_n 1, 1) := by decide +kernel
theorem dX11_point_43 : decode cX11_point 43 = .ok (.iload_n 2, 1) := by decide +kernel
theorem dX11_point_44 : decode cX11_point 44 = .ok (.iload 5, 2) := by decide +kernel
theorem dX11_point_46 : decode cX11_point 46 = .ok (.invokevirtual 197, 3) := by decide +kernel
theorem dX11_point_49 : decode cX11_point 49 = .ok (.ireturn, 1) := by decide +kernel
theorem dX11_connect_0 : decode cX11_connect 0 = .ok (.aload_n 0, 1) := by decide +kernel
theorem dX11_connect_1 : decode cX11_connect 1 = .ok (.iload_n 1, 1) := by decide +kernel
theorem dX11_connect_2 : decode cX11_connect 2 = .ok (.invokevirtual 146, 3) := by decide +kernel
theorem dX11_connect_5 : decode cX11_connect 5 = .ok (.astore_n 3, 1) := by decide +kernel
theorem dX11_connect_6 : decode cX11_connect 6 = .ok (.aload_n 3, 1) := by decide +kernel
theorem dX11_connect_7 : decode cX11_connect 7 = .ok (.ifnull 28, 3) := by decide +kernel
theorem dX11_connect_10 : decode cX11_connect 10 = .ok (.iload_n 2, 1) := by decide +kernel
theorem dX11_connect_11 : decode cX11_connect 11 = .ok (.iconst 0, 1) := by decide +kernel
theorem dX11_connect_12 : decode cX11_connect 12 = .ok (.ldc 141, 2) := by decide +kernel
theorem dX11_connect_14 : decode cX11_connect 14 = .ok (.invokestatic 71, 3) := by decide +kernel
theorem dX11_connect_17 : decode cX11_connect 17 = .ok (.ifCond .eq 18, 3) := by decide +kernel
theorem dX11_connect_20 : decode cX11_connect 20 = .ok (.aload_n 3, 1) := by decide +kernel
theorem dX11_connect_21 : decode cX11_connect 21 = .ok (.getfield 200, 3) := by decide +kernel
theorem dX11_connect_24 : decode cX11_connect 24 = .ok (.iload_n 2, 1) := by decide +kernel
theorem dX11_connect_25 : decode cX11_connect 25 = .ok (.invokevirtual 204, 3) := by decide +kernel
theorem dX11_connect_28 : decode cX11_connect 28 = .ok (.ifCond .eq 7, 3) := by decide +kernel
theorem dX11_connect_31 : decode cX11_connect 31 = .ok (.iconst 1, 1) := by decide +kernel
theorem dX11_connect_32 : decode cX11_connect 32 = .ok (.goto 4, 3) := by decide +kernel
theorem dX11_connect_35 : decode cX11_connect 35 = .ok (.iconst 0, 1) := by decide +kernel
theorem dX11_connect_36 : decode cX11_connect 36 = .ok (.ireturn, 1) := by decide +kernel
theorem dX11_disconnect_0 : decode cX11_disconnect 0 = .ok (.aload_n 0, 1) := by decide +kernel
theorem dX11_disconnect_1 : decode cX11_disconnect 1 = .ok (.iload_n 1, 1) := by decide +kernel
theorem dX11_disconnect_2 : decode cX11_disconnect 2 = .ok (.invokevirtual 146, 3) := by decide +kernel
theorem dX11_disconnect_5 : decode cX11_disconnect 5 = .ok (.astore_n 2, 1) := by decide +kernel
theorem dX11_disconnect_6 : decode cX11_disconnect 6 = .ok (.aload_n 2, 1) := by decide +kernel
theorem dX11_disconnect_7 : decode cX11_disconnect 7 = .ok (.ifnull 13, 3) := by decide +kernel
theorem dX11_disconnect_10 : decode cX11_disconnect 10 = .ok (.aload_n 2, 1) := by decide +kernel
theorem dX11_disconnect_11 : decode cX11_disconnect 11 = .ok (.getfield 200, 3) := by decide +kernel
theorem dX11_disconnect_14 : decode cX11_disconnect 14 = .ok (.getfield 207, 3) := by decide +kernel
theorem dX11_disconnect_17 : decode cX11_disconnect 17 = .ok (.ifCond .ne 5, 3) := by decide +kernel
theorem dX11_disconnect_20 : decode cX11_disconnect 20 = .ok (.iconst 0, 1) := by decide +kernel
theorem dX11_disconnect_21 : decode cX11_disconnect 21 = .ok (.ireturn, 1) := by decide +kernel
theorem dX11_disconnect_22 : decode cX11_disconnect 22 = .ok (.aload_n 2, 1) := by decide +kernel
theorem dX11_disconnect_23 : decode cX11_disconnect 23 = .ok (.getfield 200, 3) := by decide +kernel
theorem dX11_disconnect_26 : decode cX11_disconnect 26 = .ok (.invokevirtual 210, 3) := by decide +kernel
theorem dX11_disconnect_29 : decode cX11_disconnect 29 = .ok (.iconst 1, 1) := by decide +kernel
theorem dX11_disconnect_30 : decode cX11_disconnect 30 = .ok (.ireturn, 1) := by decide +kernel
theorem dX11_peek_0 : decode cX11_peek 0 = .ok (.aload_n 0, 1) := by decide +kernel
theorem dX11_peek_1 : decode cX11_peek 1 = .ok (.iload_n 1, 1) := by decide +kernel
theorem dX11_peek_2 : decode cX11_peek 2 = .ok (.invokevirtual 146, 3) := by decide +kernel
theorem dX11_peek_5 : decode cX11_peek 5 = .ok (.astore 4, 2) := by decide +kernel
theorem dX11_peek_7 : decode cX11_peek 7 = .ok (.aload 4, 2) := by decide +kernel
theorem dX11_peek_9 : decode cX11_peek 9 = .ok (.ifnull 40, 3) := by decide +kernel
theorem dX11_peek_12 : decode cX11_peek 12 = .ok (.iload_n 2, 1) := by decide +kernel
theorem dX11_peek_13 : decode cX11_peek 13 = .ok (.iconst 0, 1) := by decide +kernel
theorem dX11_peek_14 : decode cX11_peek 14 = .ok (.ldc 141, 2) := by decide +kernel
theorem dX11_peek_16 : decode cX11_peek 16 = .ok (.invokestatic 71, 3) := by decide +kernel
theorem dX11_peek_19 : decode cX11_peek 19 = .ok (.ifCond .eq 30, 3) := by decide +kernel
theorem dX11_peek_22 : decode cX11_peek 22 = .ok (.iload_n 3, 1) := by decide +kernel
theorem dX11_peek_23 : decode cX11_peek 23 = .ok (.iconst 1, 1) := by decide +kernel
theorem dX11_peek_24 : decode cX11_peek 24 = .ok (.bipush 12, 2) := by decide +kernel
theorem dX11_peek_26 : decode cX11_peek 26 = .ok (.invokestatic 71, 3) := by decide +kernel
theorem dX11_peek_29 : decode cX11_peek 29 = .ok (.ifCond .eq 20, 3) := by decide +kernel
theorem dX11_peek_32 : decode cX11_peek 32 = .ok (.aload 4, 2) := by decide +kernel
theorem dX11_peek_34 : decode cX11_peek 34 = .ok (.getfield 200, 3) := by decide +kernel
theorem dX11_peek_37 : decode cX11_peek 37 = .ok (.iload_n 2, 1) := by decide +kernel
theorem dX11_peek_38 : decode cX11_peek 38 = .ok (.iload_n 3, 1) := by decide +kernel
theorem dX11_peek_39 : decode cX11_peek 39 = .ok (.invokevirtual 213, 3) := by decide +kernel
theorem dX11_peek_42 : decode cX11_peek 42 = .ok (.ifCond .eq 7, 3) := by decide +kernel
theorem dX11_peek_45 : decode cX11_peek 45 = .ok (.iconst 1, 1) := by decide +kernel
theorem dX11_peek_46 : decode cX11_peek 46 = .ok (.goto 4, 3) := by decide +kernel
theorem dX11_peek_49 : decode cX11_peek 49 = .ok (.iconst 0, 1) := by decide +kernel
theorem dX11_peek_50 : decode cX11_peek 50 = .ok (.ireturn, 1) := by decide +kernel
theorem dX11_poke_0 : decode cX11_poke 0 = .ok (.aload_n 0, 1) := by decide +kernel
theorem dX11_poke_1 : decode cX11_poke 1 = .ok (.iload_n 1, 1) := by decide +kernel
theorem dX11_poke_2 : decode cX11_poke 2 = .ok (.invokevirtual 146, 3) := by decide +kernel
theorem dX11_poke_5 : decode cX11_poke 5 = .ok (.astore 5, 2) := by decide +kernel
theorem dX11_poke_7 : decode cX11_poke 7 = .ok (.aload 5, 2) := by decide +kernel
theorem dX11_poke_9 : decode cX11_poke 9 = .ok (.ifnull 41, 3) := by decide +kernel
theorem dX11_poke_12 : decode cX11_poke 12 = .ok (.iload_n 2, 1) := by decide +kernel
theorem dX11_poke_13 : decode cX11_poke 13 = .ok (.iconst 0, 1) := by decide +kernel
theorem dX11_poke_14 : decode cX11_poke 14 = .ok (.ldc 141, 2) := by decide +kernel
theorem dX11_poke_16 : decode cX11_poke 16 = .ok (.invokestatic 71, 3) := by decide +kernel
theorem dX11_poke_19 : decode cX11_poke 19 = .ok (.ifCond .eq 31, 3) := by decide +kernel
theorem dX11_poke_22 : decode cX11_poke 22 = .ok (.iload_n 3, 1) := by decide +kernel
theorem dX11_poke_23 : decode cX11_poke 23 = .ok (.iconst 1, 1) := by decide +kernel
theorem dX11_poke_24 : decode cX11_poke 24 = .ok (.iconst 4, 1) := by decide +kernel
theorem dX11_poke_25 : decode cX11_poke 25 = .ok (.invokestatic 71, 3) := by decide +kernel
theorem dX11_poke_28 : decode cX11_poke 28 = .ok (.ifCond .eq 22, 3) := by decide +kernel
theorem dX11_poke_31 : decode cX11_poke 31 = .ok (.aload 5, 2) := by decide +kernel
theorem dX11_poke_33 : decode cX11_poke 33 = .ok (.getfield 200, 3) := by decide +kernel
theorem dX11_poke_36 : decode cX11_poke 36 = .ok (.iload_n 2, 1) := by decide +kernel
theorem dX11_poke_37 : decode cX11_poke 37 = .ok (.iload_n 3, 1) := by decide +kernel
theorem dX11_poke_38 : decode cX11_poke 38 = .ok (.iload 4, 2) := by decide +kernel
theorem dX11_poke_40 : decode cX11_poke 40 = .ok (.invokevirtual 216, 3) := by decide +kernel
theorem dX11_poke_43 : decode cX11_poke 43 = .ok (.ifCond .eq 7, 3) := by decide +kernel
theorem dX11_poke_46 : decode cX11_poke 46 = .ok (.iconst 1, 1) := by decide +kernel
theorem dX11_poke_47 : decode cX11_poke 47 = .ok (.goto 4, 3) := by decide +kernel
theorem dX11_poke_50 : decode cX11_poke 50 = .ok (.iconst 0, 1) := by decide +kernel
theorem dX11_poke_51 : decode cX11_poke 51 = .ok (.ireturn, 1) := by decide +kernel
theorem dX11_memory_0 : decode cX11_memory 0 = .ok (.aload_n 0, 1) := by decide +kernel
theorem dX11_memory_1 : decode cX11_memory 1 = .ok (.iload_n 1, 1) := by decide +kernel
theorem dX11_memory_2 : decode cX11_memory 2 = .ok (.invokevirtual 146, 3) := by decide +kernel
theorem dX11_memory_5 : decode cX11_memory 5 = .ok (.astore_n 3, 1) := by decide +kernel
theorem dX11_memory_6 : decode cX11_memory 6 = .ok (.aload_n 3, 1) := by decide +kernel
theorem dX11_memory_7 : decode cX11_memory 7 = .ok (.ifnull 13, 3) := by decide +kernel
theorem dX11_memory_10 : decode cX11_memory 10 = .ok (.iload_n 2, 1) := by decide +kernel
theorem dX11_memory_11 : decode cX11_memory 11 = .ok (.iconst 0, 1) := by decide +kernel
theorem dX11_memory_12 : decode cX11_memory 12 = .ok (.bipush 63, 2) := by decide +kernel
theorem dX11_memory_14 : decode cX11_memory 14 = .ok (.invokestatic 71, 3) := by decide +kernel
theorem dX11_memory_17 : decode cX11_memory 17 = .ok (.ifCond .ne 5, 3) := by decide +kernel
theorem dX11_memory_20 : decode cX11_memory 20 = .ok (.iconst (-1), 1) := by decide +kernel
theorem dX11_memory_21 : decode cX11_memory 21 = .ok (.ireturn, 1) := by decide +kernel
theorem dX11_memory_22 : decode cX11_memory 22 = .ok (.aload_n 3, 1) := by decide +kernel
theorem dX11_memory_23 : decode cX11_memory 23 = .ok (.getfield 200, 3) := by decide +kernel
theorem dX11_memory_26 : decode cX11_memory 26 = .ok (.getfield 219, 3) := by decide +kernel
theorem dX11_memory_29 : decode cX11_memory 29 = .ok (.iload_n 2, 1) := by decide +kernel
theorem dX11_memory_30 : decode cX11_memory 30 = .ok (.iaload, 1) := by decide +kernel
theorem dX11_memory_31 : decode cX11_memory 31 = .ok (.ireturn, 1) := by decide +kernel
theorem dX11_store_0 : decode cX11_store 0 = .ok (.aload_n 0, 1) := by decide +kernel
theorem dX11_store_1 : decode cX11_store 1 = .ok (.iload_n 1, 1) := by decide +kernel
theorem dX11_store_2 : decode cX11_store 2 = .ok (.invokevirtual 146, 3) := by decide +kernel
theorem dX11_store_5 : decode cX11_store 5 = .ok (.astore 4, 2) := by decide +kernel
theorem dX11_store_7 : decode cX11_store 7 = .ok (.aload 4, 2) := by decide +kernel
theorem dX11_store_9 : decode cX11_store 9 = .ok (.ifnull 13, 3) := by decide +kernel
theorem dX11_store_12 : decode cX11_store 12 = .ok (.iload_n 2, 1) := by decide +kernel
theorem dX11_store_13 : decode cX11_store 13 = .ok (.iconst 0, 1) := by decide +kernel
theorem dX11_store_14 : decode cX11_store 14 = .ok (.bipush 63, 2) := by decide +kernel
theorem dX11_store_16 : decode cX11_store 16 = .ok (.invokestatic 71, 3) := by decide +kernel
theorem dX11_store_19 : decode cX11_store 19 = .ok (.ifCond .ne 5, 3) := by decide +kernel
theorem dX11_store_22 : decode cX11_store 22 = .ok (.iconst 0, 1) := by decide +kernel
theorem dX11_store_23 : decode cX11_store 23 = .ok (.ireturn, 1) := by decide +kernel
theorem dX11_store_24 : decode cX11_store 24 = .ok (.aload 4, 2) := by decide +kernel
theorem dX11_store_26 : decode cX11_store 26 = .ok (.getfield 200, 3) := by decide +kernel
theorem dX11_store_29 : decode cX11_store 29 = .ok (.getfield 219, 3) := by decide +kernel
theorem dX11_store_32 : decode cX11_store 32 = .ok (.iload_n 2, 1) := by decide +kernel
theorem dX11_store_33 : decode cX11_store 33 = .ok (.iload_n 3, 1) := by decide +kernel
theorem dX11_store_34 : decode cX11_store 34 = .ok (.sipush 255, 3) := by decide +kernel
theorem dX11_store_37 : decode cX11_store 37 = .ok (.iand, 1) := by decide +kernel
theorem dX11_store_38 : decode cX11_store 38 = .ok (.iastore, 1) := by decide +kernel
theorem dX11_store_39 : decode cX11_store 39 = .ok (.iconst 1, 1) := by decide +kernel
theorem dX11_store_40 : decode cX11_store 40 = .ok (.ireturn, 1) := by decide +kernel
theorem dX11_reply_0 : decode cX11_reply 0 = .ok (.aload_n 0, 1) := by decide +kernel
theorem dX11_reply_1 : decode cX11_reply 1 = .ok (.iload_n 1, 1) := by decide +kernel
theorem dX11_reply_2 : decode cX11_reply 2 = .ok (.invokevirtual 146, 3) := by decide +kernel
theorem dX11_reply_5 : decode cX11_reply 5 = .ok (.astore_n 3, 1) := by decide +kernel
theorem dX11_reply_6 : decode cX11_reply 6 = .ok (.aload_n 3, 1) := by decide +kernel
theorem dX11_reply_7 : decode cX11_reply 7 = .ok (.ifnonnull 5, 3) := by decide +kernel
theorem dX11_reply_10 : decode cX11_reply 10 = .ok (.iconst (-1), 1) := by decide +kernel
theorem dX11_reply_11 : decode cX11_reply 11 = .ok (.ireturn, 1) := by decide +kernel
theorem dX11_reply_12 : decode cX11_reply 12 = .ok (.aload_n 3, 1) := by decide +kernel
theorem dX11_reply_13 : decode cX11_reply 13 = .ok (.getfield 200, 3) := by decide +kernel
theorem dX11_reply_16 : decode cX11_reply 16 = .ok (.getfield 222, 3) := by decide +kernel
theorem dX11_reply_19 : decode cX11_reply 19 = .ok (.istore 4, 2) := by decide +kernel
theorem dX11_reply_21 : decode cX11_reply 21 = .ok (.iload_n 2, 1) := by decide +kernel
theorem dX11_reply_22 : decode cX11_reply 22 = .ok (.iconst (-1), 1) := by decide +kernel
theorem dX11_reply_23 : decode cX11_reply 23 = .ok (.if_icmp .ne 6, 3) := by decide +kernel
theorem dX11_reply_26 : decode cX11_reply 26 = .ok (.iload 4, 2) := by decide +kernel
theorem dX11_reply_28 : decode cX11_reply 28 = .ok (.ireturn, 1) := by decide +kernel
theorem dX11_reply_29 : decode cX11_reply 29 = .ok (.iload_n 2, 1) := by decide +kernel
theorem dX11_reply_30 : decode cX11_reply 30 = .ok (.iconst 0, 1) := by decide +kernel
theorem dX11_reply_31 : decode cX11_reply 31 = .ok (.iload 4, 2) := by decide +kernel
theorem dX11_reply_33 : decode cX11_reply 33 = .ok (.iconst 1, 1) := by decide +kernel
theorem dX11_reply_34 : decode cX11_reply 34 = .ok (.isub, 1) := by decide +kernel
theorem dX11_reply_35 : decode cX11_reply 35 = .ok (.invokestatic 71, 3) := by decide +kernel
theorem dX11_reply_38 : decode cX11_reply 38 = .ok (.ifCond .eq 15, 3) := by decide +kernel
theorem dX11_reply_41 : decode cX11_reply 41 = .ok (.aload_n 3, 1) := by decide +kernel
theorem dX11_reply_42 : decode cX11_reply 42 = .ok (.getfield 200, 3) := by decide +kernel
theorem dX11_reply_45 : decode cX11_reply 45 = .ok (.getfield 225, 3) := by decide +kernel
theorem dX11_reply_48 : decode cX11_reply 48 = .ok (.iload_n 2, 1) := by decide +kernel
theorem dX11_reply_49 : decode cX11_reply 49 = .ok (.iaload, 1) := by decide +kernel
theorem dX11_reply_50 : decode cX11_reply 50 = .ok (.goto 4, 3) := by decide +kernel
theorem dX11_reply_53 : decode cX11_reply 53 = .ok (.iconst (-1), 1) := by decide +kernel
theorem dX11_reply_54 : decode cX11_reply 54 = .ok (.ireturn, 1) := by decide +kernel
theorem dX11_connection_0 : decode cX11_connection 0 = .ok (.aload_n 0, 1) := by decide +kernel
theorem dX11_connection_1 : decode cX11_connection 1 = .ok (.iload_n 1, 1) := by decide +kernel
theorem dX11_connection_2 : decode cX11_connection 2 = .ok (.invokevirtual 146, 3) := by decide +kernel
theorem dX11_connection_5 : decode cX11_connection 5 = .ok (.astore_n 3, 1) := by decide +kernel
theorem dX11_connection_6 : decode cX11_connection 6 = .ok (.aload_n 3, 1) := by decide +kernel
theorem dX11_connection_7 : decode cX11_connection 7 = .ok (.ifnonnull 5, 3) := by decide +kernel
theorem dX11_connection_10 : decode cX11_connection 10 = .ok (.iconst (-1), 1) := by decide +kernel
theorem dX11_connection_11 : decode cX11_connection 11 = .ok (.ireturn, 1) := by decide +kernel
theorem dX11_connection_12 : decode cX11_connection 12 = .ok (.iload_n 2, 1) := by decide +kernel
theorem dX11_connection_13 : decode cX11_connection 13 = .ok (.tableswitch 63 7 11 #[35, 43, 48, 53, 58], 35) := by decide +kernel
theorem dX11_connection_48 : decode cX11_connection 48 = .ok (.aload_n 3, 1) := by decide +kernel
theorem dX11_connection_49 : decode cX11_connection 49 = .ok (.getfield 228, 3) := by decide +kernel
theorem dX11_connection_52 : decode cX11_connection 52 = .ok (.getfield 232, 3) := by decide +kernel
theorem dX11_connection_55 : decode cX11_connection 55 = .ok (.ireturn, 1) := by decide +kernel
theorem dX11_connection_56 : decode cX11_connection 56 = .ok (.aload_n 3, 1) := by decide +kernel
theorem dX11_connection_57 : decode cX11_connection 57 = .ok (.getfield 235, 3) := by decide +kernel
theorem dX11_connection_60 : decode cX11_connection 60 = .ok (.ireturn, 1) := by decide +kernel
theorem dX11_connection_61 : decode cX11_connection 61 = .ok (.aload_n 3, 1) := by decide +kernel
theorem dX11_connection_62 : decode cX11_connection 62 = .ok (.getfield 238, 3) := by decide +kernel
theorem dX11_connection_65 : decode cX11_connection 65 = .ok (.ireturn, 1) := by decide +kernel
theorem dX11_connection_66 : decode cX11_connection 66 = .ok (.aload_n 3, 1) := by decide +kernel
theorem dX11_connection_67 : decode cX11_connection 67 = .ok (.getfield 241, 3) := by decide +kernel
theorem dX11_connection_70 : decode cX11_connection 70 = .ok (.ireturn, 1) := by decide +kernel
theorem dX11_connection_71 : decode cX11_connection 71 = .ok (.aload_n 3, 1) := by decide +kernel
theorem dX11_connection_72 : decode cX11_connection 72 = .ok (.getfield 244, 3) := by decide +kernel
theorem dX11_connection_75 : decode cX11_connection 75 = .ok (.ireturn, 1) := by decide +kernel
theorem dX11_connection_76 : decode cX11_connection 76 = .ok (.aload_n 3, 1) := by decide +kernel
theorem dX11_connection_77 : decode cX11_connection 77 = .ok (.getfield 200, 3) := by decide +kernel
theorem dX11_connection_80 : decode cX11_connection 80 = .ok (.iload_n 2, 1) := by decide +kernel
theorem dX11_connection_81 : decode cX11_connection 81 = .ok (.invokevirtual 247, 3) := by decide +kernel
theorem dX11_connection_84 : decode cX11_connection 84 = .ok (.ireturn, 1) := by decide +kernel
theorem dX11_busy_0 : decode cX11_busy 0 = .ok (.aload_n 0, 1) := by decide +kernel
theorem dX11_busy_1 : decode cX11_busy 1 = .ok (.iload_n 1, 1) := by decide +kernel
theorem dX11_busy_2 : decode cX11_busy 2 = .ok (.invokevirtual 146, 3) := by decide +kernel
theorem dX11_busy_5 : decode cX11_busy 5 = .ok (.astore_n 3, 1) := by decide +kernel
theorem dX11_busy_6 : decode cX11_busy 6 = .ok (.aload_n 3, 1) := by decide +kernel
theorem dX11_busy_7 : decode cX11_busy 7 = .ok (.ifnull 13, 3) := by decide +kernel
theorem dX11_busy_10 : decode cX11_busy 10 = .ok (.iload_n 2, 1) := by decide +kernel
theorem dX11_busy_11 : decode cX11_busy 11 = .ok (.iconst 0, 1) := by decide +kernel
theorem dX11_busy_12 : decode cX11_busy 12 = .ok (.bipush 20, 2) := by decide +kernel
theorem dX11_busy_14 : decode cX11_busy 14 = .ok (.invokestatic 71, 3) := by decide +kernel
theorem dX11_busy_17 : decode cX11_busy 17 = .ok (.ifCond .ne 5, 3) := by decide +kernel
theorem dX11_busy_20 : decode cX11_busy 20 = .ok (.iconst 0, 1) := by decide +kernel
theorem dX11_busy_21 : decode cX11_busy 21 = .ok (.ireturn, 1) := by decide +kernel
theorem dX11_busy_22 : decode cX11_busy 22 = .ok (.aload_n 3, 1) := by decide +kernel
theorem dX11_busy_23 : decode cX11_busy 23 = .ok (.iload_n 2, 1) := by decide +kernel
theorem dX11_busy_24 : decode cX11_busy 24 = .ok (.putfield 238, 3) := by decide +kernel
theorem dX11_busy_27 : decode cX11_busy 27 = .ok (.iconst 1, 1) := by decide +kernel
theorem dX11_busy_28 : decode cX11_busy 28 = .ok (.ireturn, 1) := by decide +kernel
theorem dX11_feed_0 : decode cX11_feed 0 = .ok (.aload_n 0, 1) := by decide +kernel
theorem dX11_feed_1 : decode cX11_feed 1 = .ok (.getfield 250, 3) := by decide +kernel
theorem dX11_feed_4 : decode cX11_feed 4 = .ok (.bipush 40, 2) := by decide +kernel
theorem dX11_feed_6 : decode cX11_feed 6 = .ok (.if_icmp .le 5, 3) := by decide +kernel
theorem dX11_feed_9 : decode cX11_feed 9 = .ok (.iconst (-1), 1) := by decide +kernel
theorem dX11_feed_10 : decode cX11_feed 10 = .ok (.ireturn, 1) := by decide +kernel
theorem dX11_feed_11 : decode cX11_feed 11 = .ok (.aload_n 0, 1) := by decide +kernel
theorem dX11_feed_12 : decode cX11_feed 12 = .ok (.iload_n 1, 1) := by decide +kernel
theorem dX11_feed_13 : decode cX11_feed 13 = .ok (.invokevirtual 253, 3) := by decide +kernel
theorem dX11_feed_16 : decode cX11_feed 16 = .ok (.aload_n 0, 1) := by decide +kernel
theorem dX11_feed_17 : decode cX11_feed 17 = .ok (.iload_n 2, 1) := by decide +kernel
theorem dX11_feed_18 : decode cX11_feed 18 = .ok (.invokevirtual 253, 3) := by decide +kernel
theorem dX11_feed_21 : decode cX11_feed 21 = .ok (.aload_n 0, 1) := by decide +kernel
theorem dX11_feed_22 : decode cX11_feed 22 = .ok (.iload_n 3, 1) := by decide +kernel
theorem dX11_feed_23 : decode cX11_feed 23 = .ok (.invokevirtual 253, 3) := by decide +kernel
theorem dX11_feed_26 : decode cX11_feed 26 = .ok (.aload_n 0, 1) := by decide +kernel
theorem dX11_feed_27 : decode cX11_feed 27 = .ok (.iload 4, 2) := by decide +kernel
theorem dX11_feed_29 : decode cX11_feed 29 = .ok (.invokevirtual 253, 3) := by decide +kernel
theorem dX11_feed_32 : decode cX11_feed 32 = .ok (.aload_n 0, 1) := by decide +kernel
theorem dX11_feed_33 : decode cX11_feed 33 = .ok (.iload 5, 2) := by decide +kernel
theorem dX11_feed_35 : decode cX11_feed 35 = .ok (.invokevirtual 253, 3) := by decide +kernel
theorem dX11_feed_38 : decode cX11_feed 38 = .ok (.aload_n 0, 1) := by decide +kernel
theorem dX11_feed_39 : decode cX11_feed 39 = .ok (.getfield 250, 3) := by decide +kernel
theorem dX11_feed_42 : decode cX11_feed 42 = .ok (.ireturn, 1) := by decide +kernel
theorem dX11_feedNumber_0 : decode cX11_feedNumber 0 = .ok (.bipush 24, 2) := by decide +kernel
theorem dX11_feedNumber_2 : decode cX11_feedNumber 2 = .ok (.istore_n 2, 1) := by decide +kernel
theorem dX11_feedNumber_3 : decode cX11_feedNumber 3 = .ok (.iload_n 2, 1) := by decide +kernel
theorem dX11_feedNumber_4 : decode cX11_feedNumber 4 = .ok (.ifCond .lt 44, 3) := by decide +kernel
theorem dX11_feedNumber_7 : decode cX11_feedNumber 7 = .ok (.aload_n 0, 1) := by decide +kernel
theorem dX11_feedNumber_8 : decode cX11_feedNumber 8 = .ok (.getfield 250, 3) := by decide +kernel
theorem dX11_feedNumber_11 : decode cX11_feedNumber 11 = .ok (.bipush 60, 2) := by decide +kernel
theorem dX11_feedNumber_13 : decode cX11_feedNumber 13 = .ok (.if_icmp .ge 35, 3) := by decide +kernel
theorem dX11_feedNumber_16 : decode cX11_feedNumber 16 = .ok (.aload_n 0, 1) := by decide +kernel
theorem dX11_feedNumber_17 : decode cX11_feedNumber 17 = .ok (.getfield 47, 3) := by decide +kernel
theorem dX11_feedNumber_20 : decode cX11_feedNumber 20 = .ok (.aload_n 0, 1) := by decide +kernel
theorem dX11_feedNumber_21 : decode cX11_feedNumber 21 = .ok (.getfield 250, 3) := by decide +kernel
theorem dX11_feedNumber_24 : decode cX11_feedNumber 24 = .ok (.iload_n 1, 1) := by decide +kernel
theorem dX11_feedNumber_25 : decode cX11_feedNumber 25 = .ok (.iload_n 2, 1) := by decide +kernel
theorem dX11_feedNumber_26 : decode cX11_feedNumber 26 = .ok (.ishr, 1) := by decide +kernel
theorem dX11_feedNumber_27 : decode cX11_feedNumber 27 = .ok (.sipush 255, 3) := by decide +kernel
theorem dX11_feedNumber_30 : decode cX11_feedNumber 30 = .ok (.iand, 1) := by decide +kernel
theorem dX11_feedNumber_31 : decode cX11_feedNumber 31 = .ok (.iastore, 1) := by decide +kernel
theorem dX11_feedNumber_32 : decode cX11_feedNumber 32 = .ok (.aload_n 0, 1) := by decide +kernel
theorem dX11_feedNumber_33 : decode cX11_feedNumber 33 = .ok (.dup, 1) := by decide +kernel
theorem dX11_feedNumber_34 : decode cX11_feedNumber 34 = .ok (.getfield 250, 3) := by decide +kernel
theorem dX11_feedNumber_37 : decode cX11_feedNumber 37 = .ok (.iconst 1, 1) := by decide +kernel
theorem dX11_feedNumber_38 : decode cX11_feedNumber 38 = .ok (.iadd, 1) := by decide +kernel
theorem dX11_feedNumber_39 : decode cX11_feedNumber 39 = .ok (.putfield 250, 3) := by decide +kernel
theorem dX11_feedNumber_42 : decode cX11_feedNumber 42 = .ok (.iinc 2 (-8), 3) := by decide +kernel
theorem dX11_feedNumber_45 : decode cX11_feedNumber 45 = .ok (.goto (-42), 3) := by decide +kernel
theorem dX11_feedNumber_48 : decode cX11_feedNumber 48 = .ok (.return_, 1) := by decide +kernel
theorem dX11_end_0 : decode cX11_end 0 = .ok (.iload_n 1, 1) := by decide +kernel
theorem dX11_end_1 : decode cX11_end 1 = .ok (.ifCond .lt 11, 3) := by decide +kernel
theorem dX11_end_4 : decode cX11_end 4 = .ok (.iload_n 1, 1) := by decide +kernel
theorem dX11_end_5 : decode cX11_end 5 = .ok (.aload_n 0, 1) := by decide +kernel
theorem dX11_end_6 : decode cX11_end 6 = .ok (.getfield 250, 3) := by decide +kernel
theorem dX11_end_9 : decode cX11_end 9 = .ok (.if_icmp .le 5, 3) := by decide +kernel
theorem dX11_end_12 : decode cX11_end 12 = .ok (.iconst (-1), 1) := by decide +kernel
theorem dX11_end_13 : decode cX11_end 13 = .ok (.ireturn, 1) := by decide +kernel
theorem dX11_end_14 : decode cX11_end 14 = .ok (.aload_n 0, 1) := by decide +kernel
theorem dX11_end_15 : decode cX11_end 15 = .ok (.iload_n 1, 1) := by decide +kernel
theorem dX11_end_16 : decode cX11_end 16 = .ok (.putfield 250, 3) := by decide +kernel
theorem dX11_end_19 : decode cX11_end 19 = .ok (.iload_n 1, 1) := by decide +kernel
theorem dX11_end_20 : decode cX11_end 20 = .ok (.ireturn, 1) := by decide +kernel
theorem dX11_raw_0 : decode cX11_raw 0 = .ok (.aload_n 0, 1) := by decide +kernel
theorem dX11_raw_1 : decode cX11_raw 1 = .ok (.iload_n 1, 1) := by decide +kernel
theorem dX11_raw_2 : decode cX11_raw 2 = .ok (.invokevirtual 82, 3) := by decide +kernel
theorem dX11_raw_5 : decode cX11_raw 5 = .ok (.astore_n 2, 1) := by decide +kernel
theorem dX11_raw_6 : decode cX11_raw 6 = .ok (.aload_n 2, 1) := by decide +kernel
theorem dX11_raw_7 : decode cX11_raw 7 = .ok (.ifnull 17, 3) := by decide +kernel
theorem dX11_raw_10 : decode cX11_raw 10 = .ok (.aload_n 0, 1) := by decide +kernel
theorem dX11_raw_11 : decode cX11_raw 11 = .ok (.getfield 250, 3) := by decide +kernel
theorem dX11_raw_14 : decode cX11_raw 14 = .ok (.bipush 8, 2) := by decide +kernel
theorem dX11_raw_16 : decode cX11_raw 16 = .ok (.bipush 23, 2) := by decide +kernel
theorem dX11_raw_18 : decode cX11_raw 18 = .ok (.invokestatic 71, 3) := by decide +kernel
theorem dX11_raw_21 : decode cX11_raw 21 = .ok (.ifCond .ne 5, 3) := by decide +kernel
theorem dX11_raw_24 : decode cX11_raw 24 = .ok (.iconst (-1), 1) := by decide +kernel
theorem dX11_raw_25 : decode cX11_raw 25 = .ok (.ireturn, 1) := by decide +kernel
theorem dX11_raw_26 : decode cX11_raw 26 = .ok (.aload_n 2, 1) := by decide +kernel
theorem dX11_raw_27 : decode cX11_raw 27 = .ok (.getfield 257, 3) := by decide +kernel
theorem dX11_raw_30 : decode cX11_raw 30 = .ok (.astore_n 3, 1) := by decide +kernel
theorem dX11_raw_31 : decode cX11_raw 31 = .ok (.aload_n 3, 1) := by decide +kernel
theorem dX11_raw_32 : decode cX11_raw 32 = .ok (.invokevirtual 260, 3) := by decide +kernel
theorem dX11_raw_35 : decode cX11_raw 35 = .ok (.ifCond .eq 6, 3) := by decide +kernel
theorem dX11_raw_38 : decode cX11_raw 38 = .ok (.bipush (-2), 2) := by decide +kernel
theorem dX11_raw_40 : decode cX11_raw 40 = .ok (.ireturn, 1) := by decide +kernel
theorem dX11_raw_41 : decode cX11_raw 41 = .ok (.aload_n 0, 1) := by decide +kernel
theorem dX11_raw_42 : decode cX11_raw 42 = .ok (.getfield 47, 3) := by decide +kernel
theorem dX11_raw_45 : decode cX11_raw 45 = .ok (.iconst 0, 1) := by decide +kernel
theorem dX11_raw_46 : decode cX11_raw 46 = .ok (.aload_n 0, 1) := by decide +kernel
theorem dX11_raw_47 : decode cX11_raw 47 = .ok (.getfield 58, 3) := by decide +kernel
theorem dX11_raw_50 : decode cX11_raw 50 = .ok (.getfield 264, 3) := by decide +kernel
theorem dX11_raw_53 : decode cX11_raw 53 = .ok (.iconst 0, 1) := by decide +kernel
theorem dX11_raw_54 : decode cX11_raw 54 = .ok (.aload_n 0, 1) := by decide +kernel
theorem dX11_raw_55 : decode cX11_raw 55 = .ok (.getfield 250, 3) := by decide +kernel
theorem dX11_raw_58 : decode cX11_raw 58 = .ok (.invokestatic 267, 3) := by decide +kernel
theorem dX11_raw_61 : decode cX11_raw 61 = .ok (.aload_n 0, 1) := by decide +kernel
theorem dX11_raw_62 : decode cX11_raw 62 = .ok (.getfield 58, 3) := by decide +kernel
theorem dX11_raw_65 : decode cX11_raw 65 = .ok (.aload_n 0, 1) := by decide +kernel
theorem dX11_raw_66 : decode cX11_raw 66 = .ok (.getfield 250, 3) := by decide +kernel
theorem dX11_raw_69 : decode cX11_raw 69 = .ok (.putfield 273, 3) := by decide +kernel
theorem dX11_raw_72 : decode cX11_raw 72 = .ok (.aload_n 3, 1) := by decide +kernel
theorem dX11_raw_73 : decode cX11_raw 73 = .ok (.aload_n 0, 1) := by decide +kernel
theorem dX11_raw_74 : decode cX11_raw 74 = .ok (.getfield 58, 3) := by decide +kernel
theorem dX11_raw_77 : decode cX11_raw 77 = .ok (.invokevirtual 276, 3) := by decide +kernel
theorem dX11_raw_80 : decode cX11_raw 80 = .ok (.pop, 1) := by decide +kernel
theorem dX11_raw_81 : decode cX11_raw 81 = .ok (.aload_n 0, 1) := by decide +kernel
theorem dX11_raw_82 : decode cX11_raw 82 = .ok (.iconst 0, 1) := by decide +kernel
theorem dX11_raw_83 : decode cX11_raw 83 = .ok (.putfield 250, 3) := by decide +kernel
theorem dX11_raw_86 : decode cX11_raw 86 = .ok (.aload_n 3, 1) := by decide +kernel
theorem dX11_raw_87 : decode cX11_raw 87 = .ok (.getfield 232, 3) := by decide +kernel
theorem dX11_raw_90 : decode cX11_raw 90 = .ok (.ireturn, 1) := by decide +kernel
theorem dX11_harm_0 : decode cX11_harm 0 = .ok (.iload_n 1, 1) := by decide +kernel
theorem dX11_harm_1 : decode cX11_harm 1 = .ok (.iconst 0, 1) := by decide +kernel
theorem dX11_harm_2 : decode cX11_harm 2 = .ok (.sipush 500, 3) := by decide +kernel
theorem dX11_harm_5 : decode cX11_harm 5 = .ok (.invokestatic 71, 3) := by decide +kernel
theorem dX11_harm_8 : decode cX11_harm 8 = .ok (.ifCond .eq 24, 3) := by decide +kernel
theorem dX11_harm_11 : decode cX11_harm 11 = .ok (.iload_n 2, 1) := by decide +kernel
theorem dX11_harm_12 : decode cX11_harm 12 = .ok (.iconst 0, 1) := by decide +kernel
theorem dX11_harm_13 : decode cX11_harm 13 = .ok (.bipush 22, 2) := by decide +kernel
theorem dX11_harm_15 : decode cX11_harm 15 = .ok (.invokestatic 71, 3) := by decide +kernel
theorem dX11_harm_18 : decode cX11_harm 18 = .ok (.ifCond .eq 14, 3) := by decide +kernel
theorem dX11_harm_21 : decode cX11_harm 21 = .ok (.iload_n 3, 1) := by decide +kernel
theorem dX11_harm_22 : decode cX11_harm 22 = .ok (.iconst 1, 1) := by decide +kernel
theorem dX11_harm_23 : decode cX11_harm 23 = .ok (.sipush 255, 3) := by decide +kernel
theorem dX11_harm_26 : decode cX11_harm 26 = .ok (.invokestatic 71, 3) := by decide +kernel
theorem dX11_harm_29 : decode cX11_harm 29 = .ok (.ifCond .ne 5, 3) := by decide +kernel
theorem dX11_harm_32 : decode cX11_harm 32 = .ok (.iconst 0, 1) := by decide +kernel
theorem dX11_harm_33 : decode cX11_harm 33 = .ok (.ireturn, 1) := by decide +kernel
theorem dX11_harm_34 : decode cX11_harm 34 = .ok (.aload_n 0, 1) := by decide +kernel
theorem dX11_harm_35 : decode cX11_harm 35 = .ok (.getfield 43, 3) := by decide +kernel
theorem dX11_harm_38 : decode cX11_harm 38 = .ok (.aload_n 0, 1) := by decide +kernel
theorem dX11_harm_39 : decode cX11_harm 39 = .ok (.getfield 10, 3) := by decide +kernel
theorem dX11_harm_42 : decode cX11_harm 42 = .ok (.getfield 280, 3) := by decide +kernel
theorem dX11_harm_45 : decode cX11_harm 45 = .ok (.iload_n 1, 1) := by decide +kernel
theorem dX11_harm_46 : decode cX11_harm 46 = .ok (.iadd, 1) := by decide +kernel
theorem dX11_harm_47 : decode cX11_harm 47 = .ok (.iload_n 2, 1) := by decide +kernel
theorem dX11_harm_48 : decode cX11_harm 48 = .ok (.iload_n 3, 1) := by decide +kernel
theorem dX11_harm_49 : decode cX11_harm 49 = .ok (.invokevirtual 283, 3) := by decide +kernel
theorem dX11_harm_52 : decode cX11_harm 52 = .ok (.ireturn, 1) := by decide +kernel
theorem dX11_step_0 : decode cX11_step 0 = .ok (.iload_n 1, 1) := by decide +kernel
theorem dX11_step_1 : decode cX11_step 1 = .ok (.iconst 1, 1) := by decide +kernel
theorem dX11_step_2 : decode cX11_step 2 = .ok (.sipush 200, 3) := by decide +kernel
theorem dX11_step_5 : decode cX11_step 5 = .ok (.invokestatic 71, 3) := by decide +kernel
theorem dX11_step_8 : decode cX11_step 8 = .ok (.ifCond .ne 14, 3) := by decide +kernel
theorem dX11_step_11 : decode cX11_step 11 = .ok (.new 285, 3) := by decide +kernel
theorem dX11_step_14 : decode cX11_step 14 = .ok (.dup, 1) := by decide +kernel
theorem dX11_step_15 : decode cX11_step 15 = .ok (.ldc_w 287, 3) := by decide +kernel
theorem dX11_step_18 : decode cX11_step 18 = .ok (.invokespecial 289, 3) := by decide +kernel
theorem dX11_step_21 : decode cX11_step 21 = .ok (.athrow, 1) := by decide +kernel
theorem dX11_step_22 : decode cX11_step 22 = .ok (.aload_n 0, 1) := by decide +kernel
theorem dX11_step_23 : decode cX11_step 23 = .ok (.getfield 10, 3) := by decide +kernel
theorem dX11_step_26 : decode cX11_step 26 = .ok (.getfield 280, 3) := by decide +kernel
theorem dX11_step_29 : decode cX11_step 29 = .ok (.istore_n 2, 1) := by decide +kernel
theorem dX11_step_30 : decode cX11_step 30 = .ok (.iconst 0, 1) := by decide +kernel
theorem dX11_step_31 : decode cX11_step 31 = .ok (.istore_n 3, 1) := by decide +kernel
theorem dX11_step_32 : decode cX11_step 32 = .ok (.iload_n 3, 1) := by decide +kernel
theorem dX11_step_33 : decode cX11_step 33 = .ok (.iload_n 1, 1) := by decide +kernel
theorem dX11_step_34 : decode cX11_step 34 = .ok (.if_icmp .ge 106, 3) := by decide +kernel
theorem dX11_step_37 : decode cX11_step 37 = .ok (.aload_n 0, 1) := by decide +kernel
theorem dX11_step_38 : decode cX11_step 38 = .ok (.getfield 10, 3) := by decide +kernel
theorem dX11_step_41 : decode cX11_step 41 = .ok (.dup, 1) := by decide +kernel
theorem dX11_step_42 : decode cX11_step 42 = .ok (.getfield 292, 3) := by decide +kernel
theorem dX11_step_45 : decode cX11_step 45 = .ok (.iconst 1, 1) := by decide +kernel
theorem dX11_step_46 : decode cX11_step 46 = .ok (.iadd, 1) := by decide +kernel
theorem dX11_step_47 : decode cX11_step 47 = .ok (.putfield 292, 3) := by decide +kernel
theorem dX11_step_50 : decode cX11_step 50 = .ok (.iconst 0, 1) := by decide +kernel
theorem dX11_step_51 : decode cX11_step 51 = .ok (.istore 4, 2) := by decide +kernel
theorem dX11_step_53 : decode cX11_step 53 = .ok (.iload 4, 2) := by decide +kernel
theorem dX11_step_55 : decode cX11_step 55 = .ok (.aload_n 0, 1) := by decide +kernel
theorem dX11_step_56 : decode cX11_step 56 = .ok (.getfield 68, 3) := by decide +kernel
theorem dX11_step_59 : decode cX11_step 59 = .ok (.if_icmp .ge 44, 3) := by decide +kernel
theorem dX11_step_62 : decode cX11_step 62 = .ok (.aload_n 0, 1) := by decide +kernel
theorem dX11_step_63 : decode cX11_step 63 = .ok (.getfield 10, 3) := by decide +kernel
theorem dX11_step_66 : decode cX11_step 66 = .ok (.getfield 295, 3) := by decide +kernel
theorem dX11_step_69 : decode cX11_step 69 = .ok (.ifCond .le 34, 3) := by decide +kernel
theorem dX11_step_72 : decode cX11_step 72 = .ok (.aload_n 0, 1) := by decide +kernel
theorem dX11_step_73 : decode cX11_step 73 = .ok (.getfield 18, 3) := by decide +kernel
theorem dX11_step_76 : decode cX11_step 76 = .ok (.iload 4, 2) := by decide +kernel
theorem dX11_step_78 : decode cX11_step 78 = .ok (.aaload, 1) := by decide +kernel
theorem dX11_step_79 : decode cX11_step 79 = .ok (.invokevirtual 298, 3) := by decide +kernel
theorem dX11_step_82 : decode cX11_step 82 = .ok (.astore 5, 2) := by decide +kernel
theorem dX11_step_84 : decode cX11_step 84 = .ok (.aload 5, 2) := by decide +kernel
theorem dX11_step_86 : decode cX11_step 86 = .ok (.ifnull 11, 3) := by decide +kernel
theorem dX11_step_89 : decode cX11_step 89 = .ok (.aload_n 0, 1) := by decide +kernel
theorem dX11_step_90 : decode cX11_step 90 = .ok (.iload 4, 2) := by decide +kernel
theorem dX11_step_92 : decode cX11_step 92 = .ok (.aload 5, 2) := by decide +kernel
theorem dX11_step_94 : decode cX11_step 94 = .ok (.invokevirtual 302, 3) := by decide +kernel
theorem dX11_step_97 : decode cX11_step 97 = .ok (.iinc 4 1, 3) := by decide +kernel
theorem dX11_step_100 : decode cX11_step 100 = .ok (.goto (-47), 3) := by decide +kernel
theorem dX11_step_103 : decode cX11_step 103 = .ok (.iconst 0, 1) := by decide +kernel
theorem dX11_step_104 : decode cX11_step 104 = .ok (.istore 4, 2) := by decide +kernel
theorem dX11_step_106 : decode cX11_step 106 = .ok (.iload 4, 2) := by decide +kernel
theorem dX11_step_108 : decode cX11_step 108 = .ok (.aload_n 0, 1) := by decide +kernel
theorem dX11_step_109 : decode cX11_step 109 = .ok (.getfield 86, 3) := by decide +kernel
theorem dX11_step_112 : decode cX11_step 112 = .ok (.if_icmp .ge 22, 3) := by decide +kernel
theorem dX11_step_115 : decode cX11_step 115 = .ok (.aload_n 0, 1) := by decide +kernel
theorem dX11_step_116 : decode cX11_step 116 = .ok (.getfield 24, 3) := by decide +kernel
theorem dX11_step_119 : decode cX11_step 119 = .ok (.iload 4, 2) := by decide +kernel
theorem dX11_step_121 : decode cX11_step 121 = .ok (.aaload, 1) := by decide +kernel
theorem dX11_step_122 : decode cX11_step 122 = .ok (.getfield 200, 3) := by decide +kernel
theorem dX11_step_125 : decode cX11_step 125 = .ok (.invokevirtual 306, 3) := by decide +kernel
theorem dX11_step_128 : decode cX11_step 128 = .ok (.iinc 4 1, 3) := by decide +kernel
theorem dX11_step_131 : decode cX11_step 131 = .ok (.goto (-25), 3) := by decide +kernel
theorem dX11_step_134 : decode cX11_step 134 = .ok (.iinc 3 1, 3) := by decide +kernel
theorem dX11_step_137 : decode cX11_step 137 = .ok (.goto (-105), 3) := by decide +kernel
theorem dX11_step_140 : decode cX11_step 140 = .ok (.aload_n 0, 1) := by decide +kernel
theorem dX11_step_141 : decode cX11_step 141 = .ok (.getfield 10, 3) := by decide +kernel
theorem dX11_step_144 : decode cX11_step 144 = .ok (.getfield 280, 3) := by decide +kernel
theorem dX11_step_147 : decode cX11_step 147 = .ok (.iload_n 2, 1) := by decide +kernel
theorem dX11_step_148 : decode cX11_step 148 = .ok (.isub, 1) := by decide +kernel
theorem dX11_step_149 : decode cX11_step 149 = .ok (.ireturn, 1) := by decide +kernel
theorem dX11_sent_0 : decode cX11_sent 0 = .ok (.aload_n 0, 1) := by decide +kernel
theorem dX11_sent_1 : decode cX11_sent 1 = .ok (.getfield 10, 3) := by decide +kernel
theorem dX11_sent_4 : decode cX11_sent 4 = .ok (.getfield 280, 3) := by decide +kernel
theorem dX11_sent_7 : decode cX11_sent 7 = .ok (.ifCond .le 16, 3) := by decide +kernel
theorem dX11_sent_10 : decode cX11_sent 10 = .ok (.iload_n 1, 1) := by decide +kernel
theorem dX11_sent_11 : decode cX11_sent 11 = .ok (.iconst (-1), 1) := by decide +kernel
theorem dX11_sent_12 : decode cX11_sent 12 = .ok (.if_icmp .ne 11, 3) := by decide +kernel
theorem dX11_sent_15 : decode cX11_sent 15 = .ok (.aload_n 0, 1) := by decide +kernel
theorem dX11_sent_16 : decode cX11_sent 16 = .ok (.getfield 54, 3) := by decide +kernel
theorem dX11_sent_19 : decode cX11_sent 19 = .ok (.getfield 273, 3) := by decide +kernel
theorem dX11_sent_22 : decode cX11_sent 22 = .ok (.ireturn, 1) := by decide +kernel
theorem dX11_sent_23 : decode cX11_sent 23 = .ok (.iload_n 1, 1) := by decide +kernel
theorem dX11_sent_24 : decode cX11_sent 24 = .ok (.iconst 0, 1) := by decide +kernel
theorem dX11_sent_25 : decode cX11_sent 25 = .ok (.aload_n 0, 1) := by decide +kernel
theorem dX11_sent_26 : decode cX11_sent 26 = .ok (.getfield 54, 3) := by decide +kernel
theorem dX11_sent_29 : decode cX11_sent 29 = .ok (.getfield 273, 3) := by decide +kernel
theorem dX11_sent_32 : decode cX11_sent 32 = .ok (.iconst 1, 1) := by decide +kernel
theorem dX11_sent_33 : decode cX11_sent 33 = .ok (.isub, 1) := by decide +kernel
theorem dX11_sent_34 : decode cX11_sent 34 = .ok (.invokestatic 71, 3) := by decide +kernel
theorem dX11_sent_37 : decode cX11_sent 37 = .ok (.ifCond .ne 14, 3) := by decide +kernel
theorem dX11_sent_40 : decode cX11_sent 40 = .ok (.new 309, 3) := by decide +kernel
theorem dX11_sent_43 : decode cX11_sent 43 = .ok (.dup, 1) := by decide +kernel
theorem dX11_sent_44 : decode cX11_sent 44 = .ok (.ldc_w 311, 3) := by decide +kernel
theorem dX11_sent_47 : decode cX11_sent 47 = .ok (.invokespecial 313, 3) := by decide +kernel
theorem dX11_sent_50 : decode cX11_sent 50 = .ok (.athrow, 1) := by decide +kernel
theorem dX11_sent_51 : decode cX11_sent 51 = .ok (.aload_n 0, 1) := by decide +kernel
theorem dX11_sent_52 : decode cX11_sent 52 = .ok (.getfield 54, 3) := by decide +kernel
theorem dX11_sent_55 : decode cX11_sent 55 = .ok (.getfield 264, 3) := by decide +kernel
theorem dX11_sent_58 : decode cX11_sent 58 = .ok (.iload_n 1, 1) := by decide +kernel
theorem dX11_sent_59 : decode cX11_sent 59 = .ok (.iaload, 1) := by decide +kernel
theorem dX11_sent_60 : decode cX11_sent 60 = .ok (.ireturn, 1) := by decide +kernel
theorem dX11_count_0 : decode cX11_count 0 = .ok (.iload_n 1, 1) := by decide +kernel
theorem dX11_count_1 : decode cX11_count 1 = .ok (.tableswitch 165 0 13 #[71, 79, 84, 89, 94, 102, 110, 118, 126, 134, 139, 144, 152, 160], 71) := by decide +kernel
theorem dX11_count_72 : decode cX11_count 72 = .ok (.aload_n 0, 1) := by decide +kernel
theorem dX11_count_73 : decode cX11_count 73 = .ok (.getfield 10, 3) := by decide +kernel
theorem dX11_count_76 : decode cX11_count 76 = .ok (.getfield 292, 3) := by decide +kernel
theorem dX11_count_79 : decode cX11_count 79 = .ok (.ireturn, 1) := by decide +kernel
theorem dX11_count_80 : decode cX11_count 80 = .ok (.aload_n 0, 1) := by decide +kernel
theorem dX11_count_81 : decode cX11_count 81 = .ok (.getfield 68, 3) := by decide +kernel
theorem dX11_count_84 : decode cX11_count 84 = .ok (.ireturn, 1) := by decide +kernel
theorem dX11_count_85 : decode cX11_count 85 = .ok (.aload_n 0, 1) := by decide +kernel
theorem dX11_count_86 : decode cX11_count 86 = .ok (.getfield 86, 3) := by decide +kernel
theorem dX11_count_89 : decode cX11_count 89 = .ok (.ireturn, 1) := by decide +kernel
theorem dX11_count_90 : decode cX11_count 90 = .ok (.aload_n 0, 1) := by decide +kernel
theorem dX11_count_91 : decode cX11_count 91 = .ok (.getfield 113, 3) := by decide +kernel
theorem dX11_count_94 : decode cX11_count 94 = .ok (.ireturn, 1) := by decide +kernel
theorem dX11_count_95 : decode cX11_count 95 = .ok (.aload_n 0, 1) := by decide +kernel
theorem dX11_count_96 : decode cX11_count 96 = .ok (.getfield 10, 3) := by decide +kernel
theorem dX11_count_99 : decode cX11_count 99 = .ok (.getfield 280, 3) := by decide +kernel
theorem dX11_count_102 : decode cX11_count 102 = .ok (.ireturn, 1) := by decide +kernel
theorem dX11_count_103 : decode cX11_count 103 = .ok (.aload_n 0, 1) := by decide +kernel
theorem dX11_count_104 : decode cX11_count 104 = .ok (.getfield 10, 3) := by decide +kernel
theorem dX11_count_107 : decode cX11_count 107 = .ok (.getfield 314, 3) := by decide +kernel
theorem dX11_count_110 : decode cX11_count 110 = .ok (.ireturn, 1) := by decide +kernel
theorem dX11_count_111 : decode cX11_count 111 = .ok (.aload_n 0, 1) := by decide +kernel
theorem dX11_count_112 : decode cX11_count 112 = .ok (.getfield 10, 3) := by decide +kernel
theorem dX11_count_115 : decode cX11_count 115 = .ok (.getfield 317, 3) := by decide +kernel
theorem dX11_count_118 : decode cX11_count 118 = .ok (.ireturn, 1) := by decide +kernel
theorem dX11_count_119 : decode cX11_count 119 = .ok (.aload_n 0, 1) := by decide +kernel
theorem dX11_count_120 : decode cX11_count 120 = .ok (.getfield 10, 3) := by decide +kernel
theorem dX11_count_123 : decode cX11_count 123 = .ok (.getfield 320, 3) := by decide +kernel
theorem dX11_count_126 : decode cX11_count 126 = .ok (.ireturn, 1) := by decide +kernel
theorem dX11_count_127 : decode cX11_count 127 = .ok (.aload_n 0, 1) := by decide +kernel
theorem dX11_count_128 : decode cX11_count 128 = .ok (.getfield 10, 3) := by decide +kernel
theorem dX11_count_131 : decode cX11_count 131 = .ok (.getfield 323, 3) := by decide +kernel
theorem dX11_count_134 : decode cX11_count 134 = .ok (.ireturn, 1) := by decide +kernel
theorem dX11_count_135 : decode cX11_count 135 = .ok (.aload_n 0, 1) := by decide +kernel
theorem dX11_count_136 : decode cX11_count 136 = .ok (.getfield 65, 3) := by decide +kernel
theorem dX11_count_139 : decode cX11_count 139 = .ok (.ireturn, 1) := by decide +kernel
theorem dX11_count_140 : decode cX11_count 140 = .ok (.aload_n 0, 1) := by decide +kernel
theorem dX11_count_141 : decode cX11_count 141 = .ok (.getfield 61, 3) := by decide +kernel
theorem dX11_count_144 : decode cX11_count 144 = .ok (.ireturn, 1) := by decide +kernel
theorem dX11_count_145 : decode cX11_count 145 = .ok (.aload_n 0, 1) := by decide +kernel
theorem dX11_count_146 : decode cX11_count 146 = .ok (.getfield 10, 3) := by decide +kernel
theorem dX11_count_149 : decode cX11_count 149 = .ok (.getfield 295, 3) := by decide +kernel
theorem dX11_count_152 : decode cX11_count 152 = .ok (.ireturn, 1) := by decide +kernel
theorem dX11_count_153 : decode cX11_count 153 = .ok (.aload_n 0, 1) := by decide +kernel
theorem dX11_count_154 : decode cX11_count 154 = .ok (.getfield 43, 3) := by decide +kernel
theorem dX11_count_157 : decode cX11_count 157 = .ok (.getfield 326, 3) := by decide +kernel
theorem dX11_count_160 : decode cX11_count 160 = .ok (.ireturn, 1) := by decide +kernel
theorem dX11_count_161 : decode cX11_count 161 = .ok (.aload_n 0, 1) := by decide +kernel
theorem dX11_count_162 : decode cX11_count 162 = .ok (.getfield 250, 3) := by decide +kernel
theorem dX11_count_165 : decode cX11_count 165 = .ok (.ireturn, 1) := by decide +kernel
theorem dX11_count_166 : decode cX11_count 166 = .ok (.iconst (-1), 1) := by decide +kernel
theorem dX11_count_167 : decode cX11_count 167 = .ok (.ireturn, 1) := by decide +kernel
theorem dX14_init_0 : decode cX14_init 0 = .ok (.aload_n 0, 1) := by decide +kernel
theorem dX14_init_1 : decode cX14_init 1 = .ok (.invokespecial 3, 3) := by decide +kernel
theorem dX14_init_4 : decode cX14_init 4 = .ok (.aload_n 0, 1) := by decide +kernel
theorem dX14_init_5 : decode cX14_init 5 = .ok (.bipush 8, 2) := by decide +kernel
theorem dX14_init_7 : decode cX14_init 7 = .ok (.bipush 23, 2) := by decide +kernel
theorem dX14_init_9 : decode cX14_init 9 = .ok (.multianewarray 9 2, 4) := by decide +kernel
theorem dX14_init_13 : decode cX14_init 13 = .ok (.putfield 11, 3) := by decide +kernel
theorem dX14_init_16 : decode cX14_init 16 = .ok (.aload_n 0, 1) := by decide +kernel
theorem dX14_init_17 : decode cX14_init 17 = .ok (.bipush 8, 2) := by decide +kernel
theorem dX14_init_19 : decode cX14_init 19 = .ok (.newarray .int, 2) := by decide +kernel
theorem dX14_init_21 : decode cX14_init 21 = .ok (.putfield 16, 3) := by decide +kernel
theorem dX14_init_24 : decode cX14_init 24 = .ok (.aload_n 0, 1) := by decide +kernel
theorem dX14_init_25 : decode cX14_init 25 = .ok (.bipush 8, 2) := by decide +kernel
theorem dX14_init_27 : decode cX14_init 27 = .ok (.newarray .int, 2) := by decide +kernel
theorem dX14_init_29 : decode cX14_init 29 = .ok (.putfield 20, 3) := by decide +kernel
theorem dX14_init_32 : decode cX14_init 32 = .ok (.aload_n 0, 1) := by decide +kernel
theorem dX14_init_33 : decode cX14_init 33 = .ok (.bipush 8, 2) := by decide +kernel
theorem dX14_init_35 : decode cX14_init 35 = .ok (.newarray .int, 2) := by decide +kernel
theorem dX14_init_37 : decode cX14_init 37 = .ok (.putfield 23, 3) := by decide +kernel
theorem dX14_init_40 : decode cX14_init 40 = .ok (.aload_n 0, 1) := by decide +kernel
theorem dX14_init_41 : decode cX14_init 41 = .ok (.bipush 8, 2) := by decide +kernel
theorem dX14_init_43 : decode cX14_init 43 = .ok (.newarray .int, 2) := by decide +kernel
theorem dX14_init_45 : decode cX14_init 45 = .ok (.putfield 26, 3) := by decide +kernel
theorem dX14_init_48 : decode cX14_init 48 = .ok (.return_, 1) := by decide +kernel
theorem dX13_init_0 : decode cX13_init 0 = .ok (.aload_n 0, 1) := by decide +kernel
theorem dX13_init_1 : decode cX13_init 1 = .ok (.invokespecial 3, 3) := by decide +kernel
theorem dX13_init_4 : decode cX13_init 4 = .ok (.aload_n 0, 1) := by decide +kernel
theorem dX13_init_5 : decode cX13_init 5 = .ok (.new 9, 3) := by decide +kernel
theorem dX13_init_8 : decode cX13_init 8 = .ok (.dup, 1) := by decide +kernel
theorem dX13_init_9 : decode cX13_init 9 = .ok (.invokespecial 11, 3) := by decide +kernel
theorem dX13_init_12 : decode cX13_init 12 = .ok (.putfield 12, 3) := by decide +kernel
theorem dX13_init_15 : decode cX13_init 15 = .ok (.aload_n 0, 1) := by decide +kernel
theorem dX13_init_16 : decode cX13_init 16 = .ok (.bipush 23, 2) := by decide +kernel
theorem dX13_init_18 : decode cX13_init 18 = .ok (.newarray .int, 2) := by decide +kernel
theorem dX13_init_20 : decode cX13_init 20 = .ok (.putfield 18, 3) := by decide +kernel
theorem dX13_init_23 : decode cX13_init 23 = .ok (.aload_n 0, 1) := by decide +kernel
theorem dX13_init_24 : decode cX13_init 24 = .ok (.bipush 12, 2) := by decide +kernel
theorem dX13_init_26 : decode cX13_init 26 = .ok (.newarray .int, 2) := by decide +kernel
theorem dX13_init_28 : decode cX13_init 28 = .ok (.putfield 22, 3) := by decide +kernel
theorem dX13_init_31 : decode cX13_init 31 = .ok (.aload_n 0, 1) := by decide +kernel
theorem dX13_init_32 : decode cX13_init 32 = .ok (.bipush 12, 2) := by decide +kernel
theorem dX13_init_34 : decode cX13_init 34 = .ok (.newarray .int, 2) := by decide +kernel
theorem dX13_init_36 : decode cX13_init 36 = .ok (.putfield 25, 3) := by decide +kernel
theorem dX13_init_39 : decode cX13_init 39 = .ok (.aload_n 0, 1) := by decide +kernel
theorem dX13_init_40 : decode cX13_init 40 = .ok (.bipush 12, 2) := by decide +kernel
theorem dX13_init_42 : decode cX13_init 42 = .ok (.newarray .int, 2) := by decide +kernel
theorem dX13_init_44 : decode cX13_init 44 = .ok (.putfield 28, 3) := by decide +kernel
theorem dX13_init_47 : decode cX13_init 47 = .ok (.aload_n 0, 1) := by decide +kernel
theorem dX13_init_48 : decode cX13_init 48 = .ok (.bipush 12, 2) := by decide +kernel
theorem dX13_init_50 : decode cX13_init 50 = .ok (.newarray .int, 2) := by decide +kernel
theorem dX13_init_52 : decode cX13_init 52 = .ok (.putfield 31, 3) := by decide +kernel
theorem dX13_init_55 : decode cX13_init 55 = .ok (.aload_n 0, 1) := by decide +kernel
theorem dX13_init_56 : decode cX13_init 56 = .ok (.bipush 12, 2) := by decide +kernel
theorem dX13_init_58 : decode cX13_init 58 = .ok (.newarray .int, 2) := by decide +kernel
theorem dX13_init_60 : decode cX13_init 60 = .ok (.putfield 34, 3) := by decide +kernel
theorem dX13_init_63 : decode cX13_init 63 = .ok (.aload_n 0, 1) := by decide +kernel
theorem dX13_init_64 : decode cX13_init 64 = .ok (.bipush 24, 2) := by decide +kernel
theorem dX13_init_66 : decode cX13_init 66 = .ok (.newarray .int, 2) := by decide +kernel
theorem dX13_init_68 : decode cX13_init 68 = .ok (.putfield 37, 3) := by decide +kernel
theorem dX13_init_71 : decode cX13_init 71 = .ok (.aload_n 0, 1) := by decide +kernel
theorem dX13_init_72 : decode cX13_init 72 = .ok (.bipush 24, 2) := by decide +kernel
theorem dX13_init_74 : decode cX13_init 74 = .ok (.newarray .int, 2) := by decide +kernel
theorem dX13_init_76 : decode cX13_init 76 = .ok (.putfield 40, 3) := by decide +kernel
theorem dX13_init_79 : decode cX13_init 79 = .ok (.aload_n 0, 1) := by decide +kernel
theorem dX13_init_80 : decode cX13_init 80 = .ok (.bipush 64, 2) := by decide +kernel
theorem dX13_init_82 : decode cX13_init 82 = .ok (.newarray .int, 2) := by decide +kernel
theorem dX13_init_84 : decode cX13_init 84 = .ok (.putfield 43, 3) := by decide +kernel
theorem dX13_init_87 : decode cX13_init 87 = .ok (.aload_n 0, 1) := by decide +kernel
theorem dX13_init_88 : decode cX13_init 88 = .ok (.bipush 12, 2) := by decide +kernel
theorem dX13_init_90 : decode cX13_init 90 = .ok (.newarray .int, 2) := by decide +kernel
theorem dX13_init_92 : decode cX13_init 92 = .ok (.putfield 46, 3) := by decide +kernel
theorem dX13_init_95 : decode cX13_init 95 = .ok (.aload_n 0, 1) := by decide +kernel
theorem dX13_init_96 : decode cX13_init 96 = .ok (.iconst (-1), 1) := by decide +kernel
theorem dX13_init_97 : decode cX13_init 97 = .ok (.putfield 49, 3) := by decide +kernel
theorem dX13_init_100 : decode cX13_init 100 = .ok (.aload_n 0, 1) := by decide +kernel
theorem dX13_init_101 : decode cX13_init 101 = .ok (.bipush 16, 2) := by decide +kernel
theorem dX13_init_103 : decode cX13_init 103 = .ok (.newarray .int, 2) := by decide +kernel
theorem dX13_init_105 : decode cX13_init 105 = .ok (.putfield 53, 3) := by decide +kernel
theorem dX13_init_108 : decode cX13_init 108 = .ok (.return_, 1) := by decide +kernel
theorem dX12_init_0 : decode cX12_init 0 = .ok (.aload_n 0, 1) := by decide +kernel
theorem dX12_init_1 : decode cX12_init 1 = .ok (.invokespecial 3, 3) := by decide +kernel
theorem dX12_init_4 : decode cX12_init 4 = .ok (.aload_n 0, 1) := by decide +kernel
theorem dX12_init_5 : decode cX12_init 5 = .ok (.iconst 2, 1) := by decide +kernel
theorem dX12_init_6 : decode cX12_init 6 = .ok (.newarray .int, 2) := by decide +kernel
theorem dX12_init_8 : decode cX12_init 8 = .ok (.putfield 9, 3) := by decide +kernel
theorem dX12_init_11 : decode cX12_init 11 = .ok (.aload_n 0, 1) := by decide +kernel
theorem dX12_init_12 : decode cX12_init 12 = .ok (.bipush 64, 2) := by decide +kernel
theorem dX12_init_14 : decode cX12_init 14 = .ok (.newarray .int, 2) := by decide +kernel
theorem dX12_init_16 : decode cX12_init 16 = .ok (.putfield 15, 3) := by decide +kernel
theorem dX12_init_19 : decode cX12_init 19 = .ok (.aload_n 0, 1) := by decide +kernel
theorem dX12_init_20 : decode cX12_init 20 = .ok (.iconst 2, 1) := by decide +kernel
theorem dX12_init_21 : decode cX12_init 21 = .ok (.anewarray 18, 3) := by decide +kernel
theorem dX12_init_24 : decode cX12_init 24 = .ok (.dup, 1) := by decide +kernel
theorem dX12_init_25 : decode cX12_init 25 = .ok (.iconst 0, 1) := by decide +kernel
theorem dX12_init_26 : decode cX12_init 26 = .ok (.new 18, 3) := by decide +kernel
theorem dX12_init_29 : decode cX12_init 29 = .ok (.dup, 1) := by decide +kernel
theorem dX12_init_30 : decode cX12_init 30 = .ok (.invokespecial 20, 3) := by decide +kernel
theorem dX12_init_33 : decode cX12_init 33 = .ok (.aastore, 1) := by decide +kernel
theorem dX12_init_34 : decode cX12_init 34 = .ok (.dup, 1) := by decide +kernel
theorem dX12_init_35 : decode cX12_init 35 = .ok (.iconst 1, 1) := by decide +kernel
theorem dX12_init_36 : decode cX12_init 36 = .ok (.new 18, 3) := by decide +kernel
theorem dX12_init_39 : decode cX12_init 39 = .ok (.dup, 1) := by decide +kernel
theorem dX12_init_40 : decode cX12_init 40 = .ok (.invokespecial 20, 3) := by decide +kernel
theorem dX12_init_43 : decode cX12_init 43 = .ok (.aastore, 1) := by decide +kernel
theorem dX12_init_44 : decode cX12_init 44 = .ok (.putfield 21, 3) := by decide +kernel
theorem dX12_init_47 : decode cX12_init 47 = .ok (.aload_n 0, 1) := by decide +kernel
theorem dX12_init_48 : decode cX12_init 48 = .ok (.iconst 2, 1) := by decide +kernel
theorem dX12_init_49 : decode cX12_init 49 = .ok (.bipush 23, 2) := by decide +kernel
theorem dX12_init_51 : decode cX12_init 51 = .ok (.multianewarray 25 2, 4) := by decide +kernel
theorem dX12_init_55 : decode cX12_init 55 = .ok (.putfield 27, 3) := by decide +kernel
theorem dX12_init_58 : decode cX12_init 58 = .ok (.aload_n 0, 1) := by decide +kernel
theorem dX12_init_59 : decode cX12_init 59 = .ok (.iconst 2, 1) := by decide +kernel
theorem dX12_init_60 : decode cX12_init 60 = .ok (.newarray .int, 2) := by decide +kernel
theorem dX12_init_62 : decode cX12_init 62 = .ok (.putfield 30, 3) := by decide +kernel
theorem dX12_init_65 : decode cX12_init 65 = .ok (.return_, 1) := by decide +kernel
theorem dX15_init_0 : decode cX15_init 0 = .ok (.aload_n 0, 1) := by decide +kernel
theorem dX15_init_1 : decode cX15_init 1 = .ok (.invokespecial 1, 3) := by decide +kernel
theorem dX15_init_4 : decode cX15_init 4 = .ok (.aload_n 0, 1) := by decide +kernel
theorem dX15_init_5 : decode cX15_init 5 = .ok (.bipush 6, 2) := by decide +kernel
theorem dX15_init_7 : decode cX15_init 7 = .ok (.newarray .int, 2) := by decide +kernel
theorem dX15_init_9 : decode cX15_init 9 = .ok (.putfield 7, 3) := by decide +kernel
theorem dX15_init_12 : decode cX15_init 12 = .ok (.aload_n 0, 1) := by decide +kernel
theorem dX15_init_13 : decode cX15_init 13 = .ok (.bipush 6, 2) := by decide +kernel
theorem dX15_init_15 : decode cX15_init 15 = .ok (.anewarray 13, 3) := by decide +kernel
theorem dX15_init_18 : decode cX15_init 18 = .ok (.putfield 15, 3) := by decide +kernel
theorem dX15_init_21 : decode cX15_init 21 = .ok (.aload_n 0, 1) := by decide +kernel
theorem dX15_init_22 : decode cX15_init 22 = .ok (.bipush 24, 2) := by decide +kernel
theorem dX15_init_24 : decode cX15_init 24 = .ok (.anewarray 19, 3) := by decide +kernel
theorem dX15_init_27 : decode cX15_init 27 = .ok (.putfield 21, 3) := by decide +kernel
theorem dX15_init_30 : decode cX15_init 30 = .ok (.aload_n 0, 1) := by decide +kernel
theorem dX15_init_31 : decode cX15_init 31 = .ok (.iconst 5, 1) := by decide +kernel
theorem dX15_init_32 : decode cX15_init 32 = .ok (.anewarray 25, 3) := by decide +kernel
theorem dX15_init_35 : decode cX15_init 35 = .ok (.putfield 27, 3) := by decide +kernel
theorem dX15_init_38 : decode cX15_init 38 = .ok (.aload_n 0, 1) := by decide +kernel
theorem dX15_init_39 : decode cX15_init 39 = .ok (.bipush 23, 2) := by decide +kernel
theorem dX15_init_41 : decode cX15_init 41 = .ok (.newarray .int, 2) := by decide +kernel
theorem dX15_init_43 : decode cX15_init 43 = .ok (.putfield 31, 3) := by decide +kernel
theorem dX15_init_46 : decode cX15_init 46 = .ok (.aload_n 0, 1) := by decide +kernel
theorem dX15_init_47 : decode cX15_init 47 = .ok (.iconst 1, 1) := by decide +kernel
theorem dX15_init_48 : decode cX15_init 48 = .ok (.newarray .int, 2) := by decide +kernel
theorem dX15_init_50 : decode cX15_init 50 = .ok (.putfield 34, 3) := by decide +kernel
theorem dX15_init_53 : decode cX15_init 53 = .ok (.aload_n 0, 1) := by decide +kernel
theorem dX15_init_54 : decode cX15_init 54 = .ok (.bipush 8, 2) := by decide +kernel
theorem dX15_init_56 : decode cX15_init 56 = .ok (.newarray .int, 2) := by decide +kernel
theorem dX15_init_58 : decode cX15_init 58 = .ok (.putfield 37, 3) := by decide +kernel
theorem dX15_init_61 : decode cX15_init 61 = .ok (.aload_n 0, 1) := by decide +kernel
theorem dX15_init_62 : decode cX15_init 62 = .ok (.bipush 16, 2) := by decide +kernel
theorem dX15_init_64 : decode cX15_init 64 = .ok (.newarray .int, 2) := by decide +kernel
theorem dX15_init_66 : decode cX15_init 66 = .ok (.putfield 40, 3) := by decide +kernel
theorem dX15_init_69 : decode cX15_init 69 = .ok (.aload_n 0, 1) := by decide +kernel
theorem dX15_init_70 : decode cX15_init 70 = .ok (.iconst (-1), 1) := by decide +kernel
theorem dX15_init_71 : decode cX15_init 71 = .ok (.putfield 43, 3) := by decide +kernel
theorem dX15_init_74 : decode cX15_init 74 = .ok (.aload_n 0, 1) := by decide +kernel
theorem dX15_init_75 : decode cX15_init 75 = .ok (.bipush 23, 2) := by decide +kernel
theorem dX15_init_77 : decode cX15_init 77 = .ok (.newarray .int, 2) := by decide +kernel
theorem dX15_init_79 : decode cX15_init 79 = .ok (.putfield 47, 3) := by decide +kernel
theorem dX15_init_82 : decode cX15_init 82 = .ok (.aload_n 0, 1) := by decide +kernel
theorem dX15_init_83 : decode cX15_init 83 = .ok (.bipush 64, 2) := by decide +kernel
theorem dX15_init_85 : decode cX15_init 85 = .ok (.newarray .int, 2) := by decide +kernel
theorem dX15_init_87 : decode cX15_init 87 = .ok (.putfield 50, 3) := by decide +kernel
theorem dX15_init_90 : decode cX15_init 90 = .ok (.aload_n 0, 1) := by decide +kernel
theorem dX15_init_91 : decode cX15_init 91 = .ok (.bipush 64, 2) := by decide +kernel
theorem dX15_init_93 : decode cX15_init 93 = .ok (.newarray .int, 2) := by decide +kernel
theorem dX15_init_95 : decode cX15_init 95 = .ok (.putfield 53, 3) := by decide +kernel
theorem dX15_init_98 : decode cX15_init 98 = .ok (.aload_n 0, 1) := by decide +kernel
theorem dX15_init_99 : decode cX15_init 99 = .ok (.bipush 64, 2) := by decide +kernel
theorem dX15_init_101 : decode cX15_init 101 = .ok (.newarray .int, 2) := by decide +kernel
theorem dX15_init_103 : decode cX15_init 103 = .ok (.putfield 56, 3) := by decide +kernel
theorem dX15_init_106 : decode cX15_init 106 = .ok (.aload_n 0, 1) := by decide +kernel
theorem dX15_init_107 : decode cX15_init 107 = .ok (.bipush 40, 2) := by decide +kernel
theorem dX15_init_109 : decode cX15_init 109 = .ok (.anewarray 13, 3) := by decide +kernel
theorem dX15_init_112 : decode cX15_init 112 = .ok (.putfield 59, 3) := by decide +kernel
theorem dX15_init_115 : decode cX15_init 115 = .ok (.aload_n 0, 1) := by decide +kernel
theorem dX15_init_116 : decode cX15_init 116 = .ok (.bipush 40, 2) := by decide +kernel
theorem dX15_init_118 : decode cX15_init 118 = .ok (.newarray .int, 2) := by decide +kernel
theorem dX15_init_120 : decode cX15_init 120 = .ok (.putfield 62, 3) := by decide +kernel
theorem dX15_init_123 : decode cX15_init 123 = .ok (.aload_n 0, 1) := by decide +kernel
theorem dX15_init_124 : decode cX15_init 124 = .ok (.bipush 40, 2) := by decide +kernel
theorem dX15_init_126 : decode cX15_init 126 = .ok (.newarray .boolean, 2) := by decide +kernel
theorem dX15_init_128 : decode cX15_init 128 = .ok (.putfield 65, 3) := by decide +kernel
theorem dX15_init_131 : decode cX15_init 131 = .ok (.aload_n 0, 1) := by decide +kernel
theorem dX15_init_132 : decode cX15_init 132 = .ok (.bipush 23, 2) := by decide +kernel
theorem dX15_init_134 : decode cX15_init 134 = .ok (.newarray .int, 2) := by decide +kernel
theorem dX15_init_136 : decode cX15_init 136 = .ok (.putfield 69, 3) := by decide +kernel
theorem dX15_init_139 : decode cX15_init 139 = .ok (.aload_n 0, 1) := by decide +kernel
theorem dX15_init_140 : decode cX15_init 140 = .ok (.bipush 16, 2) := by decide +kernel
theorem dX15_init_142 : decode cX15_init 142 = .ok (.newarray .int, 2) := by decide +kernel
theorem dX15_init_144 : decode cX15_init 144 = .ok (.putfield 72, 3) := by decide +kernel
theorem dX15_init_147 : decode cX15_init 147 = .ok (.aload_n 0, 1) := by decide +kernel
theorem dX15_init_148 : decode cX15_init 148 = .ok (.bipush 23, 2) := by decide +kernel
theorem dX15_init_150 : decode cX15_init 150 = .ok (.newarray .int, 2) := by decide +kernel
theorem dX15_init_152 : decode cX15_init 152 = .ok (.putfield 75, 3) := by decide +kernel
theorem dX15_init_155 : decode cX15_init 155 = .ok (.aload_n 0, 1) := by decide +kernel
theorem dX15_init_156 : decode cX15_init 156 = .ok (.bipush 6, 2) := by decide +kernel
theorem dX15_init_158 : decode cX15_init 158 = .ok (.newarray .boolean, 2) := by decide +kernel
theorem dX15_init_160 : decode cX15_init 160 = .ok (.putfield 78, 3) := by decide +kernel
theorem dX15_init_163 : decode cX15_init 163 = .ok (.aload_n 0, 1) := by decide +kernel
theorem dX15_init_164 : decode cX15_init 164 = .ok (.iconst 4, 1) := by decide +kernel
theorem dX15_init_165 : decode cX15_init 165 = .ok (.newarray .boolean, 2) := by decide +kernel
theorem dX15_init_167 : decode cX15_init 167 = .ok (.putfield 81, 3) := by decide +kernel
theorem dX15_init_170 : decode cX15_init 170 = .ok (.aload_n 0, 1) := by decide +kernel
theorem dX15_init_171 : decode cX15_init 171 = .ok (.bipush 16, 2) := by decide +kernel
theorem dX15_init_173 : decode cX15_init 173 = .ok (.newarray .int, 2) := by decide +kernel
theorem dX15_init_175 : decode cX15_init 175 = .ok (.putfield 84, 3) := by decide +kernel
theorem dX15_init_178 : decode cX15_init 178 = .ok (.aload_n 0, 1) := by decide +kernel
theorem dX15_init_179 : decode cX15_init 179 = .ok (.bipush 60, 2) := by decide +kernel
theorem dX15_init_181 : decode cX15_init 181 = .ok (.newarray .int, 2) := by decide +kernel
theorem dX15_init_183 : decode cX15_init 183 = .ok (.putfield 87, 3) := by decide +kernel
theorem dX15_init_186 : decode cX15_init 186 = .ok (.iconst 0, 1) := by decide +kernel
theorem dX15_init_187 : decode cX15_init 187 = .ok (.istore_n 1, 1) := by decide +kernel
theorem dX15_init_188 : decode cX15_init 188 = .ok (.iload_n 1, 1) := by decide +kernel
theorem dX15_init_189 : decode cX15_init 189 = .ok (.bipush 24, 2) := by decide +kernel
theorem dX15_init_191 : decode cX15_init 191 = .ok (.if_icmp .ge 22, 3) := by decide +kernel
theorem dX15_init_194 : decode cX15_init 194 = .ok (.aload_n 0, 1) := by decide +kernel
theorem dX15_init_195 : decode cX15_init 195 = .ok (.getfield 21, 3) := by decide +kernel
theorem dX15_init_198 : decode cX15_init 198 = .ok (.iload_n 1, 1) := by decide +kernel
theorem dX15_init_199 : decode cX15_init 199 = .ok (.new 19, 3) := by decide +kernel
theorem dX15_init_202 : decode cX15_init 202 = .ok (.dup, 1) := by decide +kernel
theorem dX15_init_203 : decode cX15_init 203 = .ok (.invokespecial 90, 3) := by decide +kernel
theorem dX15_init_206 : decode cX15_init 206 = .ok (.aastore, 1) := by decide +kernel
theorem dX15_init_207 : decode cX15_init 207 = .ok (.iinc 1 1, 3) := by decide +kernel
theorem dX15_init_210 : decode cX15_init 210 = .ok (.goto (-22), 3) := by decide +kernel
theorem dX15_init_213 : decode cX15_init 213 = .ok (.iconst 0, 1) := by decide +kernel
theorem dX15_init_214 : decode cX15_init 214 = .ok (.istore_n 1, 1) := by decide +kernel
theorem dX15_init_215 : decode cX15_init 215 = .ok (.iload_n 1, 1) := by decide +kernel
theorem dX15_init_216 : decode cX15_init 216 = .ok (.iconst 5, 1) := by decide +kernel
theorem dX15_init_217 : decode cX15_init 217 = .ok (.if_icmp .ge 22, 3) := by decide +kernel
theorem dX15_init_220 : decode cX15_init 220 = .ok (.aload_n 0, 1) := by decide +kernel
theorem dX15_init_221 : decode cX15_init 221 = .ok (.getfield 27, 3) := by decide +kernel
theorem dX15_init_224 : decode cX15_init 224 = .ok (.iload_n 1, 1) := by decide +kernel
theorem dX15_init_225 : decode cX15_init 225 = .ok (.new 25, 3) := by decide +kernel
theorem dX15_init_228 : decode cX15_init 228 = .ok (.dup, 1) := by decide +kernel
theorem dX15_init_229 : decode cX15_init 229 = .ok (.invokespecial 91, 3) := by decide +kernel
theorem dX15_init_232 : decode cX15_init 232 = .ok (.aastore, 1) := by decide +kernel
theorem dX15_init_233 : decode cX15_init 233 = .ok (.iinc 1 1, 3) := by decide +kernel
theorem dX15_init_236 : decode cX15_init 236 = .ok (.goto (-21), 3) := by decide +kernel
theorem dX15_init_239 : decode cX15_init 239 = .ok (.iconst 0, 1) := by decide +kernel
theorem dX15_init_240 : decode cX15_init 240 = .ok (.istore_n 1, 1) := by decide +kernel
theorem dX15_init_241 : decode cX15_init 241 = .ok (.iload_n 1, 1) := by decide +kernel
theorem dX15_init_242 : decode cX15_init 242 = .ok (.bipush 6, 2) := by decide +kernel
theorem dX15_init_244 : decode cX15_init 244 = .ok (.if_icmp .ge 22, 3) := by decide +kernel
theorem dX15_init_247 : decode cX15_init 247 = .ok (.aload_n 0, 1) := by decide +kernel
theorem dX15_init_248 : decode cX15_init 248 = .ok (.getfield 15, 3) := by decide +kernel
theorem dX15_init_251 : decode cX15_init 251 = .ok (.iload_n 1, 1) := by decide +kernel
theorem dX15_init_252 : decode cX15_init 252 = .ok (.new 13, 3) := by decide +kernel
theorem dX15_init_255 : decode cX15_init 255 = .ok (.dup, 1) := by decide +kernel
theorem dX15_init_256 : decode cX15_init 256 = .ok (.invokespecial 92, 3) := by decide +kernel
theorem dX15_init_259 : decode cX15_init 259 = .ok (.aastore, 1) := by decide +kernel
theorem dX15_init_260 : decode cX15_init 260 = .ok (.iinc 1 1, 3) := by decide +kernel
theorem dX15_init_263 : decode cX15_init 263 = .ok (.goto (-22), 3) := by decide +kernel
theorem dX15_init_266 : decode cX15_init 266 = .ok (.return_, 1) := by decide +kernel
theorem dX15_thrown_0 : decode cX15_thrown 0 = .ok (.aload_n 0, 1) := by decide +kernel
theorem dX15_thrown_1 : decode cX15_thrown 1 = .ok (.getfield 93, 3) := by decide +kernel
theorem dX15_thrown_4 : decode cX15_thrown 4 = .ok (.ireturn, 1) := by decide +kernel
theorem dX15_in_0 : decode cX15_in 0 = .ok (.iload_n 0, 1) := by decide +kernel
theorem dX15_in_1 : decode cX15_in 1 = .ok (.iload_n 1, 1) := by decide +kernel
theorem dX15_in_2 : decode cX15_in 2 = .ok (.if_icmp .lt 12, 3) := by decide +kernel
theorem dX15_in_5 : decode cX15_in 5 = .ok (.iload_n 0, 1) := by decide +kernel
theorem dX15_in_6 : decode cX15_in 6 = .ok (.iload_n 2, 1) := by decide +kernel
theorem dX15_in_7 : decode cX15_in 7 = .ok (.if_icmp .gt 7, 3) := by decide +kernel
theorem dX15_in_10 : decode cX15_in 10 = .ok (.iconst 1, 1) := by decide +kernel
theorem dX15_in_11 : decode cX15_in 11 = .ok (.goto 4, 3) := by decide +kernel
theorem dX15_in_14 : decode cX15_in 14 = .ok (.iconst 0, 1) := by decide +kernel
theorem dX15_in_15 : decode cX15_in 15 = .ok (.ireturn, 1) := by decide +kernel
theorem dX15_isLine_0 : decode cX15_isLine 0 = .ok (.iload_n 1, 1) := by decide +kernel
theorem dX15_isLine_1 : decode cX15_isLine 1 = .ok (.iconst 0, 1) := by decide +kernel
theorem dX15_isLine_2 : decode cX15_isLine 2 = .ok (.aload_n 0, 1) := by decide +kernel
theorem dX15_isLine_3 : decode cX15_isLine 3 = .ok (.getfield 132, 3) := by decide +kernel
theorem dX15_isLine_6 : decode cX15_isLine 6 = .ok (.iconst 1, 1) := by decide +kernel
theorem dX15_isLine_7 : decode cX15_isLine 7 = .ok (.isub, 1) := by decide +kernel
theorem dX15_isLine_8 : decode cX15_isLine 8 = .ok (.invokestatic 135, 3) := by decide +kernel
theorem dX15_isLine_11 : decode cX15_isLine 11 = .ok (.ireturn, 1) := by decide +kernel
theorem dX15_isDevice_0 : decode cX15_isDevice 0 = .ok (.iload_n 1, 1) := by decide +kernel
theorem dX15_isDevice_1 : decode cX15_isDevice 1 = .ok (.iconst 0, 1) := by decide +kernel
theorem dX15_isDevice_2 : decode cX15_isDevice 2 = .ok (.aload_n 0, 1) := by decide +kernel
theorem dX15_isDevice_3 : decode cX15_isDevice 3 = .ok (.getfield 139, 3) := by decide +kernel
theorem dX15_isDevice_6 : decode cX15_isDevice 6 = .ok (.iconst 1, 1) := by decide +kernel
theorem dX15_isDevice_7 : decode cX15_isDevice 7 = .ok (.isub, 1) := by decide +kernel
theorem dX15_isDevice_8 : decode cX15_isDevice 8 = .ok (.invokestatic 135, 3) := by decide +kernel
theorem dX15_isDevice_11 : decode cX15_isDevice 11 = .ok (.ireturn, 1) := by decide +kernel
theorem dX15_isCoupler_0 : decode cX15_isCoupler 0 = .ok (.iload_n 1, 1) := by decide +kernel
theorem dX15_isCoupler_1 : decode cX15_isCoupler 1 = .ok (.iconst 0, 1) := by decide +kernel
theorem dX15_isCoupler_2 : decode cX15_isCoupler 2 = .ok (.aload_n 0, 1) := by decide +kernel
theorem dX15_isCoupler_3 : decode cX15_isCoupler 3 = .ok (.getfield 142, 3) := by decide +kernel
theorem dX15_isCoupler_6 : decode cX15_isCoupler 6 = .ok (.iconst 1, 1) := by decide +kernel
theorem dX15_isCoupler_7 : decode cX15_isCoupler 7 = .ok (.isub, 1) := by decide +kernel
theorem dX15_isCoupler_8 : decode cX15_isCoupler 8 = .ok (.invokestatic 135, 3) := by decide +kernel
theorem dX15_isCoupler_11 : decode cX15_isCoupler 11 = .ok (.ireturn, 1) := by decide +kernel
theorem dX15_isObject_0 : decode cX15_isObject 0 = .ok (.aload_n 0, 1) := by decide +kernel
theorem dX15_isObject_1 : decode cX15_isObject 1 = .ok (.iload_n 1, 1) := by decide +kernel
theorem dX15_isObject_2 : decode cX15_isObject 2 = .ok (.invokevirtual 145, 3) := by decide +kernel
theorem dX15_isObject_5 : decode cX15_isObject 5 = .ok (.ifCond .eq 26, 3) := by decide +kernel
theorem dX15_isObject_8 : decode cX15_isObject 8 = .ok (.iload_n 2, 1) := by decide +kernel
theorem dX15_isObject_9 : decode cX15_isObject 9 = .ok (.iconst 0, 1) := by decide +kernel
theorem dX15_isObject_10 : decode cX15_isObject 10 = .ok (.aload_n 0, 1) := by decide +kernel
theorem dX15_isObject_11 : decode cX15_isObject 11 = .ok (.getfield 21, 3) := by decide +kernel
theorem dX15_isObject_14 : decode cX15_isObject 14 = .ok (.iload_n 1, 1) := by decide +kernel
theorem dX15_isObject_15 : decode cX15_isObject 15 = .ok (.aaload, 1) := by decide +kernel
theorem dX15_isObject_16 : decode cX15_isObject 16 = .ok (.getfield 149, 3) := by decide +kernel
theorem dX15_isObject_19 : decode cX15_isObject 19 = .ok (.iconst 1, 1) := by decide +kernel
theorem dX15_isObject_20 : decode cX15_isObject 20 = .ok (.isub, 1) := by decide +kernel
theorem dX15_isObject_21 : decode cX15_isObject 21 = .ok (.invokestatic 135, 3) := by decide +kernel
theorem dX15_isObject_24 : decode cX15_isObject 24 = .ok (.ifCond .eq 7, 3) := by decide +kernel
theorem dX15_isObject_27 : decode cX15_isObject 27 = .ok (.iconst 1, 1) := by decide +kernel
theorem dX15_isObject_28 : decode cX15_isObject 28 = .ok (.goto 4, 3) := by decide +kernel
theorem dX15_isObject_31 : decode cX15_isObject 31 = .ok (.iconst 0, 1) := by decide +kernel
theorem dX15_isObject_32 : decode cX15_isObject 32 = .ok (.ireturn, 1) := by decide +kernel
theorem dX15_lineOf_0 : decode cX15_lineOf 0 = .ok (.iconst (-1), 1) := by decide +kernel
theorem dX15_lineOf_1 : decode cX15_lineOf 1 = .ok (.istore_n 2, 1) := by decide +kernel
theorem dX15_lineOf_2 : decode cX15_lineOf 2 = .ok (.iconst 0, 1) := by decide +kernel
theorem dX15_lineOf_3 : decode cX15_lineOf 3 = .ok (.istore_n 3, 1) := by decide +kernel
theorem dX15_lineOf_4 : decode cX15_lineOf 4 = .ok (.iload_n 3, 1) := by decide +kernel
theorem dX15_lineOf_5 : decode cX15_lineOf 5 = .ok (.aload_n 0, 1) := by decide +kernel
theorem dX15_lineOf_6 : decode cX15_lineOf 6 = .ok (.getfield 132, 3) := by decide +kernel
theorem dX15_lineOf_9 : decode cX15_lineOf 9 = .ok (.if_icmp .ge 21, 3) := by decide +kernel
theorem dX15_lineOf_12 : decode cX15_lineOf 12 = .ok (.aload_n 0, 1) := by decide +kernel
theorem dX15_lineOf_13 : decode cX15_lineOf 13 = .ok (.getfield 7, 3) := by decide +kernel
theorem dX15_lineOf_16 : decode cX15_lineOf 16 = .ok (.iload_n 3, 1) := by decide +kernel
theorem dX15_lineOf_17 : decode cX15_lineOf 17 = .ok (.iaload, 1) := by decide +kernel
theorem dX15_lineOf_18 : decode cX15_lineOf 18 = .ok (.iload_n 1, 1) := by decide +kernel
theorem dX15_lineOf_19 : decode cX15_lineOf 19 = .ok (.if_icmp .ne 5, 3) := by decide +kernel
theorem dX15_lineOf_22 : decode cX15_lineOf 22 = .ok (.iload_n 3, 1) := by decide +kernel
theorem dX15_lineOf_23 : decode cX15_lineOf 23 = .ok (.istore_n 2, 1) := by decide +kernel
theorem dX15_lineOf_24 : decode cX15_lineOf 24 = .ok (.iinc 3 1, 3) := by decide +kernel
theorem dX15_lineOf_27 : decode cX15_lineOf 27 = .ok (.goto (-23), 3) := by decide +kernel
theorem dX15_lineOf_30 : decode cX15_lineOf 30 = .ok (.iload_n 2, 1) := by decide +kernel
theorem dX15_lineOf_31 : decode cX15_lineOf 31 = .ok (.ireturn, 1) := by decide +kernel
theorem dX15_line_0 : decode cX15_line 0 = .ok (.aload_n 0, 1) := by decide +kernel
theorem dX15_line_1 : decode cX15_line 1 = .ok (.iconst 0, 1) := by decide +kernel
theorem dX15_line_2 : decode cX15_line 2 = .ok (.putfield 93, 3) := by decide +kernel
theorem dX15_line_5 : decode cX15_line 5 = .ok (.aload_n 0, 1) := by decide +kernel
theorem dX15_line_6 : decode cX15_line 6 = .ok (.getfield 132, 3) := by decide +kernel
theorem dX15_line_9 : decode cX15_line 9 = .ok (.bipush 6, 2) := by decide +kernel
theorem dX15_line_11 : decode cX15_line 11 = .ok (.if_icmp .eq 23, 3) := by decide +kernel
theorem dX15_line_14 : decode cX15_line 14 = .ok (.iload_n 1, 1) := by decide +kernel
theorem dX15_line_15 : decode cX15_line 15 = .ok (.iconst 0, 1) := by decide +kernel
theorem dX15_line_16 : decode cX15_line 16 = .ok (.sipush 255, 3) := by decide +kernel
theorem dX15_line_19 : decode cX15_line 19 = .ok (.invokestatic 135, 3) := by decide +kernel
theorem dX15_line_22 : decode cX15_line 22 = .ok (.ifCond .eq 12, 3) := by decide +kernel
theorem dX15_line_25 : decode cX15_line 25 = .ok (.aload_n 0, 1) := by decide +kernel
theorem dX15_line_26 : decode cX15_line 26 = .ok (.iload_n 1, 1) := by decide +kernel
theorem dX15_line_27 : decode cX15_line 27 = .ok (.invokevirtual 355, 3) := by decide +kernel
theorem dX15_line_30 : decode cX15_line 30 = .ok (.iconst (-1), 1) := by decide +kernel
theorem dX15_line_31 : decode cX15_line 31 = .ok (.if_icmp .eq 5, 3) := by decide +kernel
theorem dX15_line_34 : decode cX15_line 34 = .ok (.iconst (-1), 1) := by decide +kernel
theorem dX15_line_35 : decode cX15_line 35 = .ok (.ireturn, 1) := by decide +kernel
theorem dX15_line_36 : decode cX15_line 36 = .ok (.aload_n 0, 1) := by decide +kernel
theorem dX15_line_37 : decode cX15_line 37 = .ok (.getfield 7, 3) := by decide +kernel
theorem dX15_line_40 : decode cX15_line 40 = .ok (.aload_n 0, 1) := by decide +kernel
theorem dX15_line_41 : decode cX15_line 41 = .ok (.getfield 132, 3) := by decide +kernel
theorem dX15_line_44 : decode cX15_line 44 = .ok (.iload_n 1, 1) := by decide +kernel
theorem dX15_line_45 : decode cX15_line 45 = .ok (.iastore, 1) := by decide +kernel
theorem dX15_line_46 : decode cX15_line 46 = .ok (.aload_n 0, 1) := by decide +kernel
theorem dX15_line_47 : decode cX15_line 47 = .ok (.dup, 1) := by decide +kernel
theorem dX15_line_48 : decode cX15_line 48 = .ok (.getfield 132, 3) := by decide +kernel
theorem dX15_line_51 : decode cX15_line 51 = .ok (.iconst 1, 1) := by decide +kernel
theorem dX15_line_52 : decode cX15_line 52 = .ok (.iadd, 1) := by decide +kernel
theorem dX15_line_53 : decode cX15_line 53 = .ok (.putfield 132, 3) := by decide +kernel
theorem dX15_line_56 : decode cX15_line 56 = .ok (.aload_n 0, 1) := by decide +kernel
theorem dX15_line_57 : decode cX15_line 57 = .ok (.getfield 132, 3) := by decide +kernel
theorem dX15_line_60 : decode cX15_line 60 = .ok (.iconst 1, 1) := by decide +kernel
theorem dX15_line_61 : decode cX15_line 61 = .ok (.isub, 1) := by decide +kernel
theorem dX15_line_62 : decode cX15_line 62 = .ok (.ireturn, 1) := by decide +kernel
theorem dX15_device_0 : decode cX15_device 0 = .ok (.aload_n 0, 1) := by decide +kernel
theorem dX15_device_1 : decode cX15_device 1 = .ok (.iconst 0, 1) := by decide +kernel
theorem dX15_device_2 : decode cX15_device 2 = .ok (.putfield 93, 3) := by decide +kernel
theorem dX15_device_5 : decode cX15_device 5 = .ok (.aload_n 0, 1) := by decide +kernel
theorem dX15_device_6 : decode cX15_device 6 = .ok (.getfield 139, 3) := by decide +kernel
theorem dX15_device_9 : decode cX15_device 9 = .ok (.bipush 24, 2) := by decide +kernel
theorem dX15_device_11 : decode cX15_device 11 = .ok (.if_icmp .eq 22, 3) := by decide +kernel
theorem dX15_device_14 : decode cX15_device 14 = .ok (.aload_n 0, 1) := by decide +kernel
theorem dX15_device_15 : decode cX15_device 15 = .ok (.iload_n 1, 1) := by decide +kernel
theorem dX15_device_16 : decode cX15_device 16 = .ok (.invokevirtual 399, 3) := by decide +kernel
theorem dX15_device_19 : decode cX15_device 19 = .ok (.ifCond .eq 14, 3) := by decide +kernel
theorem dX15_device_22 : decode cX15_device 22 = .ok (.iload_n 2, 1) := by decide +kernel
theorem dX15_device_23 : decode cX15_device 23 = .ok (.iconst 1, 1) := by decide +kernel
theorem dX15_device_24 : decode cX15_device 24 = .ok (.sipush 255, 3) := by decide +kernel
theorem dX15_device_27 : decode cX15_device 27 = .ok (.invokestatic 135, 3) := by decide +kernel
theorem dX15_device_30 : decode cX15_device 30 = .ok (.ifCond .ne 5, 3) := by decide +kernel
theorem dX15_device_33 : decode cX15_device 33 = .ok (.iconst (-1), 1) := by decide +kernel
theorem dX15_device_34 : decode cX15_device 34 = .ok (.ireturn, 1) := by decide +kernel
theorem dX15_device_35 : decode cX15_device 35 = .ok (.sipush 256, 3) := by decide +kernel
theorem dX15_device_38 : decode cX15_device 38 = .ok (.aload_n 0, 1) := by decide +kernel
theorem dX15_device_39 : decode cX15_device 39 = .ok (.getfield 7, 3) := by decide +kernel
theorem dX15_device_42 : decode cX15_device 42 = .ok (.iload_n 1, 1) := by decide +kernel
theorem dX15_device_43 : decode cX15_device 43 = .ok (.iaload, 1) := by decide +kernel
theorem dX15_device_44 : decode cX15_device 44 = .ok (.imul, 1) := by decide +kernel
theorem dX15_device_45 : decode cX15_device 45 = .ok (.iload_n 2, 1) := by decide +kernel
theorem dX15_device_46 : decode cX15_device 46 = .ok (.iadd, 1) := by decide +kernel
theorem dX15_device_47 : decode cX15_device 47 = .ok (.istore_n 3, 1) := by decide +kernel
theorem dX15_device_48 : decode cX15_device 48 = .ok (.iconst 0, 1) := by decide +kernel
theorem dX15_device_49 : decode cX15_device 49 = .ok (.istore 4, 2) := by decide +kernel
theorem dX15_device_51 : decode cX15_device 51 = .ok (.iload 4, 2) := by decide +kernel
theorem dX15_device_53 : decode cX15_device 53 = .ok (.aload_n 0, 1) := by decide +kernel
theorem dX15_device_54 : decode cX15_device 54 = .ok (.getfield 139, 3) := by decide +kernel
theorem dX15_device_57 : decode cX15_device 57 = .ok (.if_icmp .ge 25, 3) := by decide +kernel
theorem dX15_device_60 : decode cX15_device 60 = .ok (.aload_n 0, 1) := by decide +kernel
theorem dX15_device_61 : decode cX15_device 61 = .ok (.getfield 21, 3) := by decide +kernel
theorem dX15_device_64 : decode cX15_device 64 = .ok (.iload 4, 2) := by decide +kernel
theorem dX15_device_66 : decode cX15_device 66 = .ok (.aaload, 1) := by decide +kernel
theorem dX15_device_67 : decode cX15_device 67 = .ok (.getfield 152, 3) := by decide +kernel
theorem dX15_device_70 : decode cX15_device 70 = .ok (.iload_n 3, 1) := by decide +kernel
theorem dX15_device_71 : decode cX15_device 71 = .ok (.if_icmp .ne 5, 3) := by decide +kernel
theorem dX15_device_74 : decode cX15_device 74 = .ok (.iconst (-1), 1) := by decide +kernel
theorem dX15_device_75 : decode cX15_device 75 = .ok (.ireturn, 1) := by decide +kernel
theorem dX15_device_76 : decode cX15_device 76 = .ok (.iinc 4 1, 3) := by decide +kernel
theorem dX15_device_79 : decode cX15_device 79 = .ok (.goto (-28), 3) := by decide +kernel
theorem dX15_device_82 : decode cX15_device 82 = .ok (.aload_n 0, 1) := by decide +kernel
theorem dX15_device_83 : decode cX15_device 83 = .ok (.getfield 21, 3) := by decide +kernel
theorem dX15_device_86 : decode cX15_device 86 = .ok (.aload_n 0, 1) := by decide +kernel
theorem dX15_device_87 : decode cX15_device 87 = .ok (.getfield 139, 3) := by decide +kernel
theorem dX15_device_90 : decode cX15_device 90 = .ok (.aaload, 1) := by decide +kernel
theorem dX15_device_91 : decode cX15_device 91 = .ok (.iload_n 1, 1) := by decide +kernel
theorem dX15_device_92 : decode cX15_device 92 = .ok (.putfield 271, 3) := by decide +kernel
theorem dX15_device_95 : decode cX15_device 95 = .ok (.aload_n 0, 1) := by decide +kernel
theorem dX15_device_96 : decode cX15_device 96 = .ok (.getfield 21, 3) := by decide +kernel
theorem dX15_device_99 : decode cX15_device 99 = .ok (.aload_n 0, 1) := by decide +kernel
theorem dX15_device_100 : decode cX15_device 100 = .ok (.getfield 139, 3) := by decide +kernel
theorem dX15_device_103 : decode cX15_device 103 = .ok (.aaload, 1) := by decide +kernel
theorem dX15_device_104 : decode cX15_device 104 = .ok (.iload_n 3, 1) := by decide +kernel
theorem dX15_device_105 : decode cX15_device 105 = .ok (.putfield 152, 3) := by decide +kernel
theorem dX15_device_108 : decode cX15_device 108 = .ok (.aload_n 0, 1) := by decide +kernel
theorem dX15_device_109 : decode cX15_device 109 = .ok (.dup, 1) := by decide +kernel
theorem dX15_device_110 : decode cX15_device 110 = .ok (.getfield 139, 3) := by decide +kernel
theorem dX15_device_113 : decode cX15_device 113 = .ok (.iconst 1, 1) := by decide +kernel
theorem dX15_device_114 : decode cX15_device 114 = .ok (.iadd, 1) := by decide +kernel
theorem dX15_device_115 : decode cX15_device 115 = .ok (.putfield 139, 3) := by decide +kernel
theorem dX15_device_118 : decode cX15_device 118 = .ok (.aload_n 0, 1) := by decide +kernel
theorem dX15_device_119 : decode cX15_device 119 = .ok (.getfield 139, 3) := by decide +kernel
theorem dX15_device_122 : decode cX15_device 122 = .ok (.iconst 1, 1) := by decide +kernel
theorem dX15_device_123 : decode cX15_device 123 = .ok (.isub, 1) := by decide +kernel
theorem dX15_device_124 : decode cX15_device 124 = .ok (.ireturn, 1) := by decide +kernel
theorem dX15_coupler_0 : decode cX15_coupler 0 = .ok (.aload_n 0, 1) := by decide +kernel
theorem dX15_coupler_1 : decode cX15_coupler 1 = .ok (.iconst 0, 1) := by decide +kernel
theorem dX15_coupler_2 : decode cX15_coupler 2 = .ok (.putfield 93, 3) := by decide +kernel
theorem dX15_coupler_5 : decode cX15_coupler 5 = .ok (.aload_n 0, 1) := by decide +kernel
theorem dX15_coupler_6 : decode cX15_coupler 6 = .ok (.getfield 142, 3) := by decide +kernel
theorem dX15_coupler_9 : decode cX15_coupler 9 = .ok (.iconst 5, 1) := by decide +kernel
theorem dX15_coupler_10 : decode cX15_coupler 10 = .ok (.if_icmp .eq 29, 3) := by decide +kernel
theorem dX15_coupler_13 : decode cX15_coupler 13 = .ok (.aload_n 0, 1) := by decide +kernel
theorem dX15_coupler_14 : decode cX15_coupler 14 = .ok (.iload_n 1, 1) := by decide +kernel
theorem dX15_coupler_15 : decode cX15_coupler 15 = .ok (.invokevirtual 399, 3) := by decide +kernel
theorem dX15_coupler_18 : decode cX15_coupler 18 = .ok (.ifCond .eq 21, 3) := by decide +kernel
theorem dX15_coupler_21 : decode cX15_coupler 21 = .ok (.aload_n 0, 1) := by decide +kernel
theorem dX15_coupler_22 : decode cX15_coupler 22 = .ok (.iload_n 2, 1) := by decide +kernel
theorem dX15_coupler_23 : decode cX15_coupler 23 = .ok (.invokevirtual 399, 3) := by decide +kernel
theorem dX15_coupler_26 : decode cX15_coupler 26 = .ok (.ifCond .eq 13, 3) := by decide +kernel
theorem dX15_coupler_29 : decode cX15_coupler 29 = .ok (.aload_n 0, 1) := by decide +kernel
theorem dX15_coupler_30 : decode cX15_coupler 30 = .ok (.iload_n 1, 1) := by decide +kernel
theorem dX15_coupler_31 : decode cX15_coupler 31 = .ok (.iload_n 2, 1) := by decide +kernel
theorem dX15_coupler_32 : decode cX15_coupler 32 = .ok (.iconst (-1), 1) := by decide +kernel
theorem dX15_coupler_33 : decode cX15_coupler 33 = .ok (.invokevirtual 358, 3) := by decide +kernel
theorem dX15_coupler_36 : decode cX15_coupler 36 = .ok (.ifCond .eq 5, 3) := by decide +kernel
theorem dX15_coupler_39 : decode cX15_coupler 39 = .ok (.iconst (-1), 1) := by decide +kernel
theorem dX15_coupler_40 : decode cX15_coupler 40 = .ok (.ireturn, 1) := by decide +kernel
theorem dX15_coupler_41 : decode cX15_coupler 41 = .ok (.aload_n 0, 1) := by decide +kernel
theorem dX15_coupler_42 : decode cX15_coupler 42 = .ok (.getfield 27, 3) := by decide +kernel
theorem dX15_coupler_45 : decode cX15_coupler 45 = .ok (.aload_n 0, 1) := by decide +kernel
theorem dX15_coupler_46 : decode cX15_coupler 46 = .ok (.getfield 142, 3) := by decide +kernel
theorem dX15_coupler_49 : decode cX15_coupler 49 = .ok (.aaload, 1) := by decide +kernel
theorem dX15_coupler_50 : decode cX15_coupler 50 = .ok (.getfield 278, 3) := by decide +kernel
theorem dX15_coupler_53 : decode cX15_coupler 53 = .ok (.iconst 0, 1) := by decide +kernel
theorem dX15_coupler_54 : decode cX15_coupler 54 = .ok (.iload_n 1, 1) := by decide +kernel
theorem dX15_coupler_55 : decode cX15_coupler 55 = .ok (.iastore, 1) := by decide +kernel
theorem dX15_coupler_56 : decode cX15_coupler 56 = .ok (.aload_n 0, 1) := by decide +kernel
theorem dX15_coupler_57 : decode cX15_coupler 57 = .ok (.getfield 27, 3) := by decide +kernel
theorem dX15_coupler_60 : decode cX15_coupler 60 = .ok (.aload_n 0, 1) := by decide +kernel
theorem dX15_coupler_61 : decode cX15_coupler 61 = .ok (.getfield 142, 3) := by decide +kernel
theorem dX15_coupler_64 : decode cX15_coupler 64 = .ok (.aaload, 1) := by decide +kernel
theorem dX15_coupler_65 : decode cX15_coupler 65 = .ok (.getfield 278, 3) := by decide +kernel
theorem dX15_coupler_68 : decode cX15_coupler 68 = .ok (.iconst 1, 1) := by decide +kernel
theorem dX15_coupler_69 : decode cX15_coupler 69 = .ok (.iload_n 2, 1) := by decide +kernel
theorem dX15_coupler_70 : decode cX15_coupler 70 = .ok (.iastore, 1) := by decide +kernel
theorem dX15_coupler_71 : decode cX15_coupler 71 = .ok (.aload_n 0, 1) := by decide +kernel
theorem dX15_coupler_72 : decode cX15_coupler 72 = .ok (.dup, 1) := by decide +kernel
theorem dX15_coupler_73 : decode cX15_coupler 73 = .ok (.getfield 142, 3) := by decide +kernel
theorem dX15_coupler_76 : decode cX15_coupler 76 = .ok (.iconst 1, 1) := by decide +kernel
theorem dX15_coupler_77 : decode cX15_coupler 77 = .ok (.iadd, 1) := by decide +kernel
theorem dX15_coupler_78 : decode cX15_coupler 78 = .ok (.putfield 142, 3) := by decide +kernel
theorem dX15_coupler_81 : decode cX15_coupler 81 = .ok (.aload_n 0, 1) := by decide +kernel
theorem dX15_coupler_82 : decode cX15_coupler 82 = .ok (.getfield 142, 3) := by decide +kernel
theorem dX15_coupler_85 : decode cX15_coupler 85 = .ok (.iconst 1, 1) := by decide +kernel
theorem dX15_coupler_86 : decode cX15_coupler 86 = .ok (.isub, 1) := by decide +kernel
theorem dX15_coupler_87 : decode cX15_coupler 87 = .ok (.ireturn, 1) := by decide +kernel
theorem dX15_mode_0 : decode cX15_mode 0 = .ok (.aload_n 0, 1) := by decide +kernel
theorem dX15_mode_1 : decode cX15_mode 1 = .ok (.iconst 0, 1) := by decide +kernel
theorem dX15_mode_2 : decode cX15_mode 2 = .ok (.putfield 93, 3) := by decide +kernel
theorem dX15_mode_5 : decode cX15_mode 5 = .ok (.aload_n 0, 1) := by decide +kernel
theorem dX15_mode_6 : decode cX15_mode 6 = .ok (.iload_n 1, 1) := by decide +kernel
theorem dX15_mode_7 : decode cX15_mode 7 = .ok (.invokevirtual 402, 3) := by decide +kernel
theorem dX15_mode_10 : decode cX15_mode 10 = .ok (.ifCond .eq 12, 3) := by decide +kernel
theorem dX15_mode_13 : decode cX15_mode 13 = .ok (.iload_n 2, 1) := by decide +kernel
theorem dX15_mode_14 : decode cX15_mode 14 = .ok (.iconst 0, 1) := by decide +kernel
theorem dX15_mode_15 : decode cX15_mode 15 = .ok (.iconst 2, 1) := by decide +kernel
theorem dX15_mode_16 : decode cX15_mode 16 = .ok (.invokestatic 135, 3) := by decide +kernel
theorem dX15_mode_19 : decode cX15_mode 19 = .ok (.ifCond .ne 5, 3) := by decide +kernel
theorem dX15_mode_22 : decode cX15_mode 22 = .ok (.iconst 0, 1) := by decide +kernel
theorem dX15_mode_23 : decode cX15_mode 23 = .ok (.ireturn, 1) := by decide +kernel
theorem dX15_mode_24 : decode cX15_mode 24 = .ok (.aload_n 0, 1) := by decide +kernel
theorem dX15_mode_25 : decode cX15_mode 25 = .ok (.getfield 27, 3) := by decide +kernel
theorem dX15_mode_28 : decode cX15_mode 28 = .ok (.iload_n 1, 1) := by decide +kernel
theorem dX15_mode_29 : decode cX15_mode 29 = .ok (.aaload, 1) := by decide +kernel
theorem dX15_mode_30 : decode cX15_mode 30 = .ok (.iload_n 2, 1) := by decide +kernel
theorem dX15_mode_31 : decode cX15_mode 31 = .ok (.putfield 352, 3) := by decide +kernel
theorem dX15_mode_34 : decode cX15_mode 34 = .ok (.iconst 1, 1) := by decide +kernel
theorem dX15_mode_35 : decode cX15_mode 35 = .ok (.ireturn, 1) := by decide +kernel
theorem dX15_filter_0 : decode cX15_filter 0 = .ok (.aload_n 0, 1) := by decide +kernel
theorem dX15_filter_1 : decode cX15_filter 1 = .ok (.iconst 0, 1) := by decide +kernel
theorem dX15_filter_2 : decode cX15_filter 2 = .ok (.putfield 93, 3) := by decide +kernel
theorem dX15_filter_5 : decode cX15_filter 5 = .ok (.aload_n 0, 1) := by decide +kernel
theorem dX15_filter_6 : decode cX15_filter 6 = .ok (.iload_n 1, 1) := by decide +kernel
theorem dX15_filter_7 : decode cX15_filter 7 = .ok (.invokevirtual 402, 3) := by decide +kernel
theorem dX15_filter_10 : decode cX15_filter 10 = .ok (.ifCond .eq 14, 3) := by decide +kernel
theorem dX15_filter_13 : decode cX15_filter 13 = .ok (.iload_n 2, 1) := by decide +kernel
theorem dX15_filter_14 : decode cX15_filter 14 = .ok (.iconst 1, 1) := by decide +kernel
theorem dX15_filter_15 : decode cX15_filter 15 = .ok (.ldc_w 405, 3) := by decide +kernel
theorem dX15_filter_18 : decode cX15_filter 18 = .ok (.invokestatic 135, 3) := by decide +kernel
theorem dX15_filter_21 : decode cX15_filter 21 = .ok (.ifCond .ne 5, 3) := by decide +kernel
theorem dX15_filter_24 : decode cX15_filter 24 = .ok (.iconst 0, 1) := by decide +kernel
theorem dX15_filter_25 : decode cX15_filter 25 = .ok (.ireturn, 1) := by decide +kernel
theorem dX15_filter_26 : decode cX15_filter 26 = .ok (.aload_n 0, 1) := by decide +kernel
theorem dX15_filter_27 : decode cX15_filter 27 = .ok (.getfield 27, 3) := by decide +kernel
theorem dX15_filter_30 : decode cX15_filter 30 = .ok (.iload_n 1, 1) := by decide +kernel
theorem dX15_filter_31 : decode cX15_filter 31 = .ok (.aaload, 1) := by decide +kernel
theorem dX15_filter_32 : decode cX15_filter 32 = .ok (.astore 4, 2) := by decide +kernel
theorem dX15_filter_34 : decode cX15_filter 34 = .ok (.iconst 0, 1) := by decide +kernel
theorem dX15_filter_35 : decode cX15_filter 35 = .ok (.istore 5, 2) := by decide +kernel
theorem dX15_filter_37 : decode cX15_filter 37 = .ok (.iload 5, 2) := by decide +kernel
theorem dX15_filter_39 : decode cX15_filter 39 = .ok (.aload 4, 2) := by decide +kernel
theorem dX15_filter_41 : decode cX15_filter 41 = .ok (.getfield 346, 3) := by decide +kernel
theorem dX15_filter_44 : decode cX15_filter 44 = .ok (.if_icmp .ge 21, 3) := by decide +kernel
theorem dX15_filter_47 : decode cX15_filter 47 = .ok (.aload 4, 2) := by decide +kernel
theorem dX15_filter_49 : decode cX15_filter 49 = .ok (.getfield 349, 3) := by decide +kernel
theorem dX15_filter_52 : decode cX15_filter 52 = .ok (.iload 5, 2) := by decide +kernel
theorem dX15_filter_54 : decode cX15_filter 54 = .ok (.iaload, 1) := by decide +kernel
theorem dX15_filter_55 : decode cX15_filter 55 = .ok (.iload_n 2, 1) := by decide +kernel
theorem dX15_filter_56 : decode cX15_filter 56 = .ok (.if_icmp .eq 9, 3) := by decide +kernel
theorem dX15_filter_59 : decode cX15_filter 59 = .ok (.iinc 5 1, 3) := by decide +kernel
theorem dX15_filter_62 : decode cX15_filter 62 = .ok (.goto (-25), 3) := by decide +kernel
theorem dX15_filter_65 : decode cX15_filter 65 = .ok (.iload 5, 2) := by decide +kernel
theorem dX15_filter_67 : decode cX15_filter 67 = .ok (.aload 4, 2) := by decide +kernel
theorem dX15_filter_69 : decode cX15_filter 69 = .ok (.getfield 346, 3) := by decide +kernel
theorem dX15_filter_72 : decode cX15_filter 72 = .ok (.if_icmp .ge 39, 3) := by decide +kernel
theorem dX15_filter_75 : decode cX15_filter 75 = .ok (.iload_n 3, 1) := by decide +kernel
theorem dX15_filter_76 : decode cX15_filter 76 = .ok (.ifCond .ne 33, 3) := by decide +kernel
theorem dX15_filter_79 : decode cX15_filter 79 = .ok (.aload 4, 2) := by decide +kernel
theorem dX15_filter_81 : decode cX15_filter 81 = .ok (.dup, 1) := by decide +kernel
theorem dX15_filter_82 : decode cX15_filter 82 = .ok (.getfield 346, 3) := by decide +kernel
theorem dX15_filter_85 : decode cX15_filter 85 = .ok (.iconst 1, 1) := by decide +kernel
theorem dX15_filter_86 : decode cX15_filter 86 = .ok (.isub, 1) := by decide +kernel
theorem dX15_filter_87 : decode cX15_filter 87 = .ok (.putfield 346, 3) := by decide +kernel
theorem dX15_filter_90 : decode cX15_filter 90 = .ok (.aload 4, 2) := by decide +kernel
theorem dX15_filter_92 : decode cX15_filter 92 = .ok (.getfield 349, 3) := by decide +kernel
theorem dX15_filter_95 : decode cX15_filter 95 = .ok (.iload 5, 2) := by decide +kernel
theorem dX15_filter_97 : decode cX15_filter 97 = .ok (.aload 4, 2) := by decide +kernel
theorem dX15_filter_99 : decode cX15_filter 99 = .ok (.getfield 349, 3) := by decide +kernel
theorem dX15_filter_102 : decode cX15_filter 102 = .ok (.aload 4, 2) := by decide +kernel
theorem dX15_filter_104 : decode cX15_filter 104 = .ok (.getfield 346, 3) := by decide +kernel
theorem dX15_filter_107 : decode cX15_filter 107 = .ok (.iaload, 1) := by decide +kernel
theorem dX15_filter_108 : decode cX15_filter 108 = .ok (.iastore, 1) := by decide +kernel
theorem dX15_filter_109 : decode cX15_filter 109 = .ok (.iconst 1, 1) := by decide +kernel
theorem dX15_filter_110 : decode cX15_filter 110 = .ok (.ireturn, 1) := by decide +kernel
theorem dX15_filter_111 : decode cX15_filter 111 = .ok (.iload_n 3, 1) := by decide +kernel
theorem dX15_filter_112 : decode cX15_filter 112 = .ok (.ifCond .ne 5, 3) := by decide +kernel
theorem dX15_filter_115 : decode cX15_filter 115 = .ok (.iconst 1, 1) := by decide +kernel
theorem dX15_filter_116 : decode cX15_filter 116 = .ok (.ireturn, 1) := by decide +kernel
theorem dX15_filter_117 : decode cX15_filter 117 = .ok (.aload 4, 2) := by decide +kernel
theorem dX15_filter_119 : decode cX15_filter 119 = .ok (.getfield 346, 3) := by decide +kernel
theorem dX15_filter_122 : decode cX15_filter 122 = .ok (.bipush 64, 2) := by decide +kernel
theorem dX15_filter_124 : decode cX15_filter 124 = .ok (.if_icmp .ne 5, 3) := by decide +kernel
theorem dX15_filter_127 : decode cX15_filter 127 = .ok (.iconst 0, 1) := by decide +kernel
theorem dX15_filter_128 : decode cX15_filter 128 = .ok (.ireturn, 1) := by decide +kernel
theorem dX15_filter_129 : decode cX15_filter 129 = .ok (.aload 4, 2) := by decide +kernel
theorem dX15_filter_131 : decode cX15_filter 131 = .ok (.getfield 349, 3) := by decide +kernel
theorem dX15_filter_134 : decode cX15_filter 134 = .ok (.aload 4, 2) := by decide +kernel
theorem dX15_filter_136 : decode cX15_filter 136 = .ok (.getfield 346, 3) := by decide +kernel
theorem dX15_filter_139 : decode cX15_filter 139 = .ok (.iload_n 2, 1) := by decide +kernel
theorem dX15_filter_140 : decode cX15_filter 140 = .ok (.iastore, 1) := by decide +kernel
theorem dX15_filter_141 : decode cX15_filter 141 = .ok (.aload 4, 2) := by decide +kernel
theorem dX15_filter_143 : decode cX15_filter 143 = .ok (.dup, 1) := by decide +kernel
theorem dX15_filter_144 : decode cX15_filter 144 = .ok (.getfield 346, 3) := by decide +kernel
theorem dX15_filter_147 : decode cX15_filter 147 = .ok (.iconst 1, 1) := by decide +kernel
theorem dX15_filter_148 : decode cX15_filter 148 = .ok (.iadd, 1) := by decide +kernel
theorem dX15_filter_149 : decode cX15_filter 149 = .ok (.putfield 346, 3) := by decide +kernel
theorem dX15_filter_152 : decode cX15_filter 152 = .ok (.iconst 1, 1) := by decide +kernel
theorem dX15_filter_153 : decode cX15_filter 153 = .ok (.ireturn, 1) := by decide +kernel
theorem dX15_object_0 : decode cX15_object 0 = .ok (.aload_n 0, 1) := by decide +kernel
theorem dX15_object_1 : decode cX15_object 1 = .ok (.iconst 0, 1) := by decide +kernel
theorem dX15_object_2 : decode cX15_object 2 = .ok (.putfield 93, 3) := by decide +kernel
theorem dX15_object_5 : decode cX15_object 5 = .ok (.aload_n 0, 1) := by decide +kernel
theorem dX15_object_6 : decode cX15_object 6 = .ok (.iload_n 1, 1) := by decide +kernel
theorem dX15_object_7 : decode cX15_object 7 = .ok (.invokevirtual 145, 3) := by decide +kernel
theorem dX15_object_10 : decode cX15_object 10 = .ok (.ifCond .eq 47, 3) := by decide +kernel
theorem dX15_object_13 : decode cX15_object 13 = .ok (.iload_n 2, 1) := by decide +kernel
theorem dX15_object_14 : decode cX15_object 14 = .ok (.iconst 0, 1) := by decide +kernel
theorem dX15_object_15 : decode cX15_object 15 = .ok (.bipush 7, 2) := by decide +kernel
theorem dX15_object_17 : decode cX15_object 17 = .ok (.invokestatic 135, 3) := by decide +kernel
theorem dX15_object_20 : decode cX15_object 20 = .ok (.ifCond .eq 37, 3) := by decide +kernel
theorem dX15_object_23 : decode cX15_object 23 = .ok (.iload_n 3, 1) := by decide +kernel
theorem dX15_object_24 : decode cX15_object 24 = .ok (.iconst 0, 1) := by decide +kernel
theorem dX15_object_25 : decode cX15_object 25 = .ok (.bipush 31, 2) := by decide +kernel
theorem dX15_object_27 : decode cX15_object 27 = .ok (.invokestatic 135, 3) := by decide +kernel
theorem dX15_object_30 : decode cX15_object 30 = .ok (.ifCond .eq 27, 3) := by decide +kernel
theorem dX15_object_33 : decode cX15_object 33 = .ok (.iload 4, 2) := by decide +kernel
theorem dX15_object_35 : decode cX15_object 35 = .ok (.iconst 0, 1) := by decide +kernel
theorem dX15_object_36 : decode cX15_object 36 = .ok (.iconst 3, 1) := by decide +kernel
theorem dX15_object_37 : decode cX15_object 37 = .ok (.invokestatic 135, 3) := by decide +kernel
theorem dX15_object_40 : decode cX15_object 40 = .ok (.ifCond .eq 17, 3) := by decide +kernel
theorem dX15_object_43 : decode cX15_object 43 = .ok (.aload_n 0, 1) := by decide +kernel
theorem dX15_object_44 : decode cX15_object 44 = .ok (.getfield 21, 3) := by decide +kernel
theorem dX15_object_47 : decode cX15_object 47 = .ok (.iload_n 1, 1) := by decide +kernel
theorem dX15_object_48 : decode cX15_object 48 = .ok (.aaload, 1) := by decide +kernel
theorem dX15_object_49 : decode cX15_object 49 = .ok (.getfield 149, 3) := by decide +kernel
theorem dX15_object_52 : decode cX15_object 52 = .ok (.bipush 12, 2) := by decide +kernel
theorem dX15_object_54 : decode cX15_object 54 = .ok (.if_icmp .ne 5, 3) := by decide +kernel
theorem dX15_object_57 : decode cX15_object 57 = .ok (.iconst (-1), 1) := by decide +kernel
theorem dX15_object_58 : decode cX15_object 58 = .ok (.ireturn, 1) := by decide +kernel
theorem dX15_object_59 : decode cX15_object 59 = .ok (.aload_n 0, 1) := by decide +kernel
theorem dX15_object_60 : decode cX15_object 60 = .ok (.getfield 21, 3) := by decide +kernel
theorem dX15_object_63 : decode cX15_object 63 = .ok (.iload_n 1, 1) := by decide +kernel
theorem dX15_object_64 : decode cX15_object 64 = .ok (.aaload, 1) := by decide +kernel
theorem dX15_object_65 : decode cX15_object 65 = .ok (.astore 5, 2) := by decide +kernel
theorem dX15_object_67 : decode cX15_object 67 = .ok (.aload 5, 2) := by decide +kernel
theorem dX15_object_69 : decode cX15_object 69 = .ok (.getfield 167, 3) := by decide +kernel
theorem dX15_object_72 : decode cX15_object 72 = .ok (.aload 5, 2) := by decide +kernel
theorem dX15_object_74 : decode cX15_object 74 = .ok (.getfield 149, 3) := by decide +kernel
theorem dX15_object_77 : decode cX15_object 77 = .ok (.getstatic 406, 3) := by decide +kernel
theorem dX15_object_80 : decode cX15_object 80 = .ok (.iload_n 2, 1) := by decide +kernel
theorem dX15_object_81 : decode cX15_object 81 = .ok (.iaload, 1) := by decide +kernel
theorem dX15_object_82 : decode cX15_object 82 = .ok (.iastore, 1) := by decide +kernel
theorem dX15_object_83 : decode cX15_object 83 = .ok (.aload 5, 2) := by decide +kernel
theorem dX15_object_85 : decode cX15_object 85 = .ok (.getfield 189, 3) := by decide +kernel
theorem dX15_object_88 : decode cX15_object 88 = .ok (.aload 5, 2) := by decide +kernel
theorem dX15_object_90 : decode cX15_object 90 = .ok (.getfield 149, 3) := by decide +kernel
theorem dX15_object_93 : decode cX15_object 93 = .ok (.iload_n 3, 1) := by decide +kernel
theorem dX15_object_94 : decode cX15_object 94 = .ok (.iastore, 1) := by decide +kernel
theorem dX15_object_95 : decode cX15_object 95 = .ok (.aload 5, 2) := by decide +kernel
theorem dX15_object_97 : decode cX15_object 97 = .ok (.getfield 177, 3) := by decide +kernel
theorem dX15_object_100 : decode cX15_object 100 = .ok (.aload 5, 2) := by decide +kernel
theorem dX15_object_102 : decode cX15_object 102 = .ok (.getfield 149, 3) := by decide +kernel
theorem dX15_object_105 : decode cX15_object 105 = .ok (.iload 4, 2) := by decide +kernel
theorem dX15_object_107 : decode cX15_object 107 = .ok (.iastore, 1) := by decide +kernel
theorem dX15_object_108 : decode cX15_object 108 = .ok (.aload 5, 2) := by decide +kernel
theorem dX15_object_110 : decode cX15_object 110 = .ok (.dup, 1) := by decide +kernel
theorem dX15_object_111 : decode cX15_object 111 = .ok (.getfield 149, 3) := by decide +kernel
theorem dX15_object_114 : decode cX15_object 114 = .ok (.iconst 1, 1) := by decide +kernel
theorem dX15_object_115 : decode cX15_object 115 = .ok (.iadd, 1) := by decide +kernel
theorem dX15_object_116 : decode cX15_object 116 = .ok (.putfield 149, 3) := by decide +kernel
theorem dX15_object_119 : decode cX15_object 119 = .ok (.aload 5, 2) := by decide +kernel
theorem dX15_object_121 : decode cX15_object 121 = .ok (.getfield 149, 3) := by decide +kernel
theorem dX15_object_124 : decode cX15_object 124 = .ok (.iconst 1, 1) := by decide +kernel
theorem dX15_object_125 : decode cX15_object 125 = .ok (.isub, 1) := by decide +kernel
theorem dX15_object_126 : decode cX15_object 126 = .ok (.ireturn, 1) := by decide +kernel
theorem dX15_flags_0 : decode cX15_flags 0 = .ok (.aload_n 0, 1) := by decide +kernel
theorem dX15_flags_1 : decode cX15_flags 1 = .ok (.iconst 0, 1) := by decide +kernel
theorem dX15_flags_2 : decode cX15_flags 2 = .ok (.putfield 93, 3) := by decide +kernel
theorem dX15_flags_5 : decode cX15_flags 5 = .ok (.aload_n 0, 1) := by decide +kernel
theorem dX15_flags_6 : decode cX15_flags 6 = .ok (.iload_n 1, 1) := by decide +kernel
theorem dX15_flags_7 : decode cX15_flags 7 = .ok (.iload_n 2, 1) := by decide +kernel
theorem dX15_flags_8 : decode cX15_flags 8 = .ok (.invokevirtual 409, 3) := by decide +kernel
theorem dX15_flags_11 : decode cX15_flags 11 = .ok (.ifCond .eq 13, 3) := by decide +kernel
theorem dX15_flags_14 : decode cX15_flags 14 = .ok (.iload_n 3, 1) := by decide +kernel
theorem dX15_flags_15 : decode cX15_flags 15 = .ok (.iconst 0, 1) := by decide +kernel
theorem dX15_flags_16 : decode cX15_flags 16 = .ok (.bipush 31, 2) := by decide +kernel
theorem dX15_flags_18 : decode cX15_flags 18 = .ok (.invokestatic 135, 3) := by decide +kernel
theorem dX15_flags_21 : decode cX15_flags 21 = .ok (.ifCond .ne 5, 3) := by decide +kernel
theorem dX15_flags_24 : decode cX15_flags 24 = .ok (.iconst 0, 1) := by decide +kernel
theorem dX15_flags_25 : decode cX15_flags 25 = .ok (.ireturn, 1) := by decide +kernel
theorem dX15_flags_26 : decode cX15_flags 26 = .ok (.aload_n 0, 1) := by decide +kernel
theorem dX15_flags_27 : decode cX15_flags 27 = .ok (.getfield 21, 3) := by decide +kernel
theorem dX15_flags_30 : decode cX15_flags 30 = .ok (.iload_n 1, 1) := by decide +kernel
theorem dX15_flags_31 : decode cX15_flags 31 = .ok (.aaload, 1) := by decide +kernel
theorem dX15_flags_32 : decode cX15_flags 32 = .ok (.getfield 189, 3) := by decide +kernel
theorem dX15_flags_35 : decode cX15_flags 35 = .ok (.iload_n 2, 1) := by decide +kernel
theorem dX15_flags_36 : decode cX15_flags 36 = .ok (.iload_n 3, 1) := by decide +kernel
theorem dX15_flags_37 : decode cX15_flags 37 = .ok (.iastore, 1) := by decide +kernel
theorem dX15_flags_38 : decode cX15_flags 38 = .ok (.iconst 1, 1) := by decide +kernel
theorem dX15_flags_39 : decode cX15_flags 39 = .ok (.ireturn, 1) := by decide +kernel
theorem dX15_link_0 : decode cX15_link 0 = .ok (.aload_n 0, 1) := by decide +kernel
theorem dX15_link_1 : decode cX15_link 1 = .ok (.iconst 0, 1) := by decide +kernel
theorem dX15_link_2 : decode cX15_link 2 = .ok (.putfield 93, 3) := by decide +kernel
theorem dX15_link_5 : decode cX15_link 5 = .ok (.aload_n 0, 1) := by decide +kernel
theorem dX15_link_6 : decode cX15_link 6 = .ok (.iload_n 1, 1) := by decide +kernel
theorem dX15_link_7 : decode cX15_link 7 = .ok (.iload_n 2, 1) := by decide +kernel
theorem dX15_link_8 : decode cX15_link 8 = .ok (.invokevirtual 409, 3) := by decide +kernel
theorem dX15_link_11 : decode cX15_link 11 = .ok (.ifCond .eq 28, 3) := by decide +kernel
theorem dX15_link_14 : decode cX15_link 14 = .ok (.iload_n 3, 1) := by decide +kernel
theorem dX15_link_15 : decode cX15_link 15 = .ok (.iconst 1, 1) := by decide +kernel
theorem dX15_link_16 : decode cX15_link 16 = .ok (.ldc_w 405, 3) := by decide +kernel
theorem dX15_link_19 : decode cX15_link 19 = .ok (.invokestatic 135, 3) := by decide +kernel
theorem dX15_link_22 : decode cX15_link 22 = .ok (.ifCond .eq 17, 3) := by decide +kernel
theorem dX15_link_25 : decode cX15_link 25 = .ok (.aload_n 0, 1) := by decide +kernel
theorem dX15_link_26 : decode cX15_link 26 = .ok (.getfield 21, 3) := by decide +kernel
theorem dX15_link_29 : decode cX15_link 29 = .ok (.iload_n 1, 1) := by decide +kernel
theorem dX15_link_30 : decode cX15_link 30 = .ok (.aaload, 1) := by decide +kernel
theorem dX15_link_31 : decode cX15_link 31 = .ok (.getfield 180, 3) := by decide +kernel
theorem dX15_link_34 : decode cX15_link 34 = .ok (.bipush 24, 2) := by decide +kernel
theorem dX15_link_36 : decode cX15_link 36 = .ok (.if_icmp .ne 5, 3) := by decide +kernel
theorem dX15_link_39 : decode cX15_link 39 = .ok (.iconst 0, 1) := by decide +kernel
theorem dX15_link_40 : decode cX15_link 40 = .ok (.ireturn, 1) := by decide +kernel
theorem dX15_link_41 : decode cX15_link 41 = .ok (.aload_n 0, 1) := by decide +kernel
theorem dX15_link_42 : decode cX15_link 42 = .ok (.getfield 21, 3) := by decide +kernel
theorem dX15_link_45 : decode cX15_link 45 = .ok (.iload_n 1, 1) := by decide +kernel
theorem dX15_link_46 : decode cX15_link 46 = .ok (.aaload, 1) := by decide +kernel
theorem dX15_link_47 : decode cX15_link 47 = .ok (.astore 4, 2) := by decide +kernel
theorem dX15_link_49 : decode cX15_link 49 = .ok (.iconst 0, 1) := by decide +kernel
theorem dX15_link_50 : decode cX15_link 50 = .ok (.istore 5, 2) := by decide +kernel
theorem dX15_link_52 : decode cX15_link 52 = .ok (.iload 5, 2) := by decide +kernel
theorem dX15_link_54 : decode cX15_link 54 = .ok (.aload 4, 2) := by decide +kernel
theorem dX15_link_56 : decode cX15_link 56 = .ok (.getfield 180, 3) := by decide +kernel
theorem dX15_link_59 : decode cX15_link 59 = .ok (.if_icmp .ge 35, 3) := by decide +kernel
theorem dX15_link_62 : decode cX15_link 62 = .ok (.aload 4, 2) := by decide +kernel
theorem dX15_link_64 : decode cX15_link 64 = .ok (.getfield 183, 3) := by decide +kernel
theorem dX15_link_67 : decode cX15_link 67 = .ok (.iload 5, 2) := by decide +kernel
theorem dX15_link_69 : decode cX15_link 69 = .ok (.iaload, 1) := by decide +kernel
theorem dX15_link_70 : decode cX15_link 70 = .ok (.iload_n 2, 1) := by decide +kernel
theorem dX15_link_71 : decode cX15_link 71 = .ok (.if_icmp .ne 17, 3) := by decide +kernel
theorem dX15_link_74 : decode cX15_link 74 = .ok (.aload 4, 2) := by decide +kernel
theorem dX15_link_76 : decode cX15_link 76 = .ok (.getfield 186, 3) := by decide +kernel
theorem dX15_link_79 : decode cX15_link 79 = .ok (.iload 5, 2) := by decide +kernel
theorem dX15_link_81 : decode cX15_link 81 = .ok (.iaload, 1) := by decide +kernel
theorem dX15_link_82 : decode cX15_link 82 = .ok (.iload_n 3, 1) := by decide +kernel
theorem dX15_link_83 : decode cX15_link 83 = .ok (.if_icmp .ne 5, 3) := by decide +kernel
theorem dX15_link_86 : decode cX15_link 86 = .ok (.iconst 0, 1) := by decide +kernel
theorem dX15_link_87 : decode cX15_link 87 = .ok (.ireturn, 1) := by decide +kernel
theorem dX15_link_88 : decode cX15_link 88 = .ok (.iinc 5 1, 3) := by decide +kernel
theorem dX15_link_91 : decode cX15_link 91 = .ok (.goto (-39), 3) := by decide +kernel
theorem dX15_link_94 : decode cX15_link 94 = .ok (.aload 4, 2) := by decide +kernel
theorem dX15_link_96 : decode cX15_link 96 = .ok (.getfield 183, 3) := by decide +kernel
theorem dX15_link_99 : decode cX15_link 99 = .ok (.aload 4, 2) := by decide +kernel
theorem dX15_link_101 : decode cX15_link 101 = .ok (.getfield 180, 3) := by decide +kernel
theorem dX15_link_104 : decode cX15_link 104 = .ok (.iload_n 2, 1) := by decide +kernel
theorem dX15_link_105 : decode cX15_link 105 = .ok (.iastore, 1) := by decide +kernel
theorem dX15_link_106 : decode cX15_link 106 = .ok (.aload 4, 2) := by decide +kernel
theorem dX15_link_108 : decode cX15_link 108 = .ok (.getfield 186, 3) := by decide +kernel
theorem dX15_link_111 : decode cX15_link 111 = .ok (.aload 4, 2) := by decide +kernel
theorem dX15_link_113 : decode cX15_link 113 = .ok (.getfield 180, 3) := by decide +kernel
theorem dX15_link_116 : decode cX15_link 116 = .ok (.iload_n 3, 1) := by decide +kernel
theorem dX15_link_117 : decode cX15_link 117 = .ok (.iastore, 1) := by decide +kernel
theorem dX15_link_118 : decode cX15_link 118 = .ok (.aload 4, 2) := by decide +kernel
theorem dX15_link_120 : decode cX15_link 120 = .ok (.dup, 1) := by decide +kernel
theorem dX15_link_121 : decode cX15_link 121 = .ok (.getfield 180, 3) := by decide +kernel
theorem dX15_link_124 : decode cX15_link 124 = .ok (.iconst 1, 1) := by decide +kernel
theorem dX15_link_125 : decode cX15_link 125 = .ok (.iadd, 1) := by decide +kernel
theorem dX15_link_126 : decode cX15_link 126 = .ok (.putfield 180, 3) := by decide +kernel
theorem dX15_link_129 : decode cX15_link 129 = .ok (.iconst 1, 1) := by decide +kernel
theorem dX15_link_130 : decode cX15_link 130 = .ok (.ireturn, 1) := by decide +kernel
theorem dX15_set_0 : decode cX15_set 0 = .ok (.aload_n 0, 1) := by decide +kernel
theorem dX15_set_1 : decode cX15_set 1 = .ok (.iconst 0, 1) := by decide +kernel
theorem dX15_set_2 : decode cX15_set 2 = .ok (.putfield 93, 3) := by decide +kernel
theorem dX15_set_5 : decode cX15_set 5 = .ok (.aload_n 0, 1) := by decide +kernel
theorem dX15_set_6 : decode cX15_set 6 = .ok (.iload_n 1, 1) := by decide +kernel
theorem dX15_set_7 : decode cX15_set 7 = .ok (.iload_n 2, 1) := by decide +kernel
theorem dX15_set_8 : decode cX15_set 8 = .ok (.invokevirtual 409, 3) := by decide +kernel
theorem dX15_set_11 : decode cX15_set 11 = .ok (.ifCond .eq 18, 3) := by decide +kernel
theorem dX15_set_14 : decode cX15_set 14 = .ok (.aload_n 0, 1) := by decide +kernel
theorem dX15_set_15 : decode cX15_set 15 = .ok (.aload_n 0, 1) := by decide +kernel
theorem dX15_set_16 : decode cX15_set 16 = .ok (.getfield 21, 3) := by decide +kernel
theorem dX15_set_19 : decode cX15_set 19 = .ok (.iload_n 1, 1) := by decide +kernel
theorem dX15_set_20 : decode cX15_set 20 = .ok (.aaload, 1) := by decide +kernel
theorem dX15_set_21 : decode cX15_set 21 = .ok (.iload_n 2, 1) := by decide +kernel
theorem dX15_set_22 : decode cX15_set 22 = .ok (.iload_n 3, 1) := by decide +kernel
theorem dX15_set_23 : decode cX15_set 23 = .ok (.invokevirtual 417, 3) := by decide +kernel
theorem dX15_set_26 : decode cX15_set 26 = .ok (.goto 4, 3) := by decide +kernel
theorem dX15_set_29 : decode cX15_set 29 = .ok (.iconst (-1), 1) := by decide +kernel
theorem dX15_set_30 : decode cX15_set 30 = .ok (.ireturn, 1) := by decide +kernel
theorem dX15_ask_0 : decode cX15_ask 0 = .ok (.aload_n 0, 1) := by decide +kernel
theorem dX15_ask_1 : decode cX15_ask 1 = .ok (.iconst 0, 1) := by decide +kernel
theorem dX15_ask_2 : decode cX15_ask 2 = .ok (.putfield 93, 3) := by decide +kernel
theorem dX15_ask_5 : decode cX15_ask 5 = .ok (.aload_n 0, 1) := by decide +kernel
theorem dX15_ask_6 : decode cX15_ask 6 = .ok (.iload_n 1, 1) := by decide +kernel
theorem dX15_ask_7 : decode cX15_ask 7 = .ok (.iload_n 2, 1) := by decide +kernel
theorem dX15_ask_8 : decode cX15_ask 8 = .ok (.invokevirtual 409, 3) := by decide +kernel
theorem dX15_ask_11 : decode cX15_ask 11 = .ok (.ifCond .ne 5, 3) := by decide +kernel
theorem dX15_ask_14 : decode cX15_ask 14 = .ok (.iconst (-1), 1) := by decide +kernel
theorem dX15_ask_15 : decode cX15_ask 15 = .ok (.ireturn, 1) := by decide +kernel
theorem dX15_ask_16 : decode cX15_ask 16 = .ok (.aload_n 0, 1) := by decide +kernel
theorem dX15_ask_17 : decode cX15_ask 17 = .ok (.getfield 21, 3) := by decide +kernel
theorem dX15_ask_20 : decode cX15_ask 20 = .ok (.iload_n 1, 1) := by decide +kernel
theorem dX15_ask_21 : decode cX15_ask 21 = .ok (.aaload, 1) := by decide +kernel
theorem dX15_ask_22 : decode cX15_ask 22 = .ok (.astore_n 3, 1) := by decide +kernel
theorem dX15_ask_23 : decode cX15_ask 23 = .ok (.aload_n 3, 1) := by decide +kernel
theorem dX15_ask_24 : decode cX15_ask 24 = .ok (.iload_n 2, 1) := by decide +kernel
theorem dX15_ask_25 : decode cX15_ask 25 = .ok (.invokestatic 413, 3) := by decide +kernel
theorem dX15_ask_28 : decode cX15_ask 28 = .ok (.istore 4, 2) := by decide +kernel
theorem dX15_ask_30 : decode cX15_ask 30 = .ok (.aload_n 3, 1) := by decide +kernel
theorem dX15_ask_31 : decode cX15_ask 31 = .ok (.getfield 189, 3) := by decide +kernel
theorem dX15_ask_34 : decode cX15_ask 34 = .ok (.iload_n 2, 1) := by decide +kernel
theorem dX15_ask_35 : decode cX15_ask 35 = .ok (.iaload, 1) := by decide +kernel
theorem dX15_ask_36 : decode cX15_ask 36 = .ok (.bipush 9, 2) := by decide +kernel
theorem dX15_ask_38 : decode cX15_ask 38 = .ok (.iand, 1) := by decide +kernel
theorem dX15_ask_39 : decode cX15_ask 39 = .ok (.bipush 9, 2) := by decide +kernel
theorem dX15_ask_41 : decode cX15_ask 41 = .ok (.if_icmp .ne 9, 3) := by decide +kernel
theorem dX15_ask_44 : decode cX15_ask 44 = .ok (.iload 4, 2) := by decide +kernel
theorem dX15_ask_46 : decode cX15_ask 46 = .ok (.iconst (-1), 1) := by decide +kernel
theorem dX15_ask_47 : decode cX15_ask 47 = .ok (.if_icmp .ne 5, 3) := by decide +kernel
theorem dX15_ask_50 : decode cX15_ask 50 = .ok (.iconst (-1), 1) := by decide +kernel
theorem dX15_ask_51 : decode cX15_ask 51 = .ok (.ireturn, 1) := by decide +kernel
theorem dX15_ask_52 : decode cX15_ask 52 = .ok (.aload_n 3, 1) := by decide +kernel
theorem dX15_ask_53 : decode cX15_ask 53 = .ok (.getfield 155, 3) := by decide +kernel
theorem dX15_ask_56 : decode cX15_ask 56 = .ok (.getfield 96, 3) := by decide +kernel
theorem dX15_ask_59 : decode cX15_ask 59 = .ok (.bipush 8, 2) := by decide +kernel
theorem dX15_ask_61 : decode cX15_ask 61 = .ok (.if_icmp .ne 6, 3) := by decide +kernel
theorem dX15_ask_64 : decode cX15_ask 64 = .ok (.bipush (-2), 2) := by decide +kernel
theorem dX15_ask_66 : decode cX15_ask 66 = .ok (.ireturn, 1) := by decide +kernel
theorem dX15_ask_67 : decode cX15_ask 67 = .ok (.aload_n 0, 1) := by decide +kernel
theorem dX15_ask_68 : decode cX15_ask 68 = .ok (.getfield 37, 3) := by decide +kernel
theorem dX15_ask_71 : decode cX15_ask 71 = .ok (.iconst 0, 1) := by decide +kernel
theorem dX15_ask_72 : decode cX15_ask 72 = .ok (.iconst 0, 1) := by decide +kernel
theorem dX15_ask_73 : decode cX15_ask 73 = .ok (.iastore, 1) := by decide +kernel
theorem dX15_ask_74 : decode cX15_ask 74 = .ok (.aload_n 0, 1) := by decide +kernel
theorem dX15_ask_75 : decode cX15_ask 75 = .ok (.getfield 37, 3) := by decide +kernel
theorem dX15_ask_78 : decode cX15_ask 78 = .ok (.iconst 1, 1) := by decide +kernel
theorem dX15_ask_79 : decode cX15_ask 79 = .ok (.iconst 0, 1) := by decide +kernel
theorem dX15_ask_80 : decode cX15_ask 80 = .ok (.iastore, 1) := by decide +kernel
theorem dX15_ask_81 : decode cX15_ask 81 = .ok (.aload_n 0, 1) := by decide +kernel
theorem dX15_ask_82 : decode cX15_ask 82 = .ok (.aload_n 3, 1) := by decide +kernel
theorem dX15_ask_83 : decode cX15_ask 83 = .ok (.aload_n 3, 1) := by decide +kernel
theorem dX15_ask_84 : decode cX15_ask 84 = .ok (.getfield 177, 3) := by decide +kernel
theorem dX15_ask_87 : decode cX15_ask 87 = .ok (.iload_n 2, 1) := by decide +kernel
theorem dX15_ask_88 : decode cX15_ask 88 = .ok (.iaload, 1) := by decide +kernel
theorem dX15_ask_89 : decode cX15_ask 89 = .ok (.iconst 1, 1) := by decide +kernel
theorem dX15_ask_90 : decode cX15_ask 90 = .ok (.iload 4, 2) := by decide +kernel
theorem dX15_ask_92 : decode cX15_ask 92 = .ok (.aload_n 0, 1) := by decide +kernel
theorem dX15_ask_93 : decode cX15_ask 93 = .ok (.getfield 37, 3) := by decide +kernel
theorem dX15_ask_96 : decode cX15_ask 96 = .ok (.iconst 2, 1) := by decide +kernel
theorem dX15_ask_97 : decode cX15_ask 97 = .ok (.invokevirtual 163, 3) := by decide +kernel
theorem dX15_ask_100 : decode cX15_ask 100 = .ok (.istore 5, 2) := by decide +kernel
theorem dX15_ask_102 : decode cX15_ask 102 = .ok (.aload_n 3, 1) := by decide +kernel
theorem dX15_ask_103 : decode cX15_ask 103 = .ok (.getfield 155, 3) := by decide +kernel
theorem dX15_ask_106 : decode cX15_ask 106 = .ok (.getfield 96, 3) := by decide +kernel
theorem dX15_ask_109 : decode cX15_ask 109 = .ok (.ireturn, 1) := by decide +kernel
theorem dX15_value_0 : decode cX15_value 0 = .ok (.aload_n 0, 1) := by decide +kernel
theorem dX15_value_1 : decode cX15_value 1 = .ok (.iconst 0, 1) := by decide +kernel
theorem dX15_value_2 : decode cX15_value 2 = .ok (.putfield 93, 3) := by decide +kernel
theorem dX15_value_5 : decode cX15_value 5 = .ok (.aload_n 0, 1) := by decide +kernel
theorem dX15_value_6 : decode cX15_value 6 = .ok (.iload_n 1, 1) := by decide +kernel
theorem dX15_value_7 : decode cX15_value 7 = .ok (.iload_n 2, 1) := by decide +kernel
theorem dX15_value_8 : decode cX15_value 8 = .ok (.invokevirtual 409, 3) := by decide +kernel
theorem dX15_value_11 : decode cX15_value 11 = .ok (.ifCond .eq 22, 3) := by decide +kernel
theorem dX15_value_14 : decode cX15_value 14 = .ok (.aload_n 0, 1) := by decide +kernel
theorem dX15_value_15 : decode cX15_value 15 = .ok (.getfield 21, 3) := by decide +kernel
theorem dX15_value_18 : decode cX15_value 18 = .ok (.iload_n 1, 1) := by decide +kernel
theorem dX15_value_19 : decode cX15_value 19 = .ok (.aaload, 1) := by decide +kernel
theorem dX15_value_20 : decode cX15_value 20 = .ok (.getfield 174, 3) := by decide +kernel
theorem dX15_value_23 : decode cX15_value 23 = .ok (.iload_n 2, 1) := by decide +kernel
theorem dX15_value_24 : decode cX15_value 24 = .ok (.iaload, 1) := by decide +kernel
theorem dX15_value_25 : decode cX15_value 25 = .ok (.i2l, 1) := by decide +kernel
theorem dX15_value_26 : decode cX15_value 26 = .ok (.ldc2_w 420, 3) := by decide +kernel
theorem dX15_value_29 : decode cX15_value 29 = .ok (.land, 1) := by decide +kernel
theorem dX15_value_30 : decode cX15_value 30 = .ok (.goto 6, 3) := by decide +kernel
theorem dX15_value_33 : decode cX15_value 33 = .ok (.ldc2_w 422, 3) := by decide +kernel
theorem dX15_value_36 : decode cX15_value 36 = .ok (.lreturn, 1) := by decide +kernel
theorem dX15_updated_0 : decode cX15_updated 0 = .ok (.aload_n 0, 1) := by decide +kernel
theorem dX15_updated_1 : decode cX15_updated 1 = .ok (.iconst 0, 1) := by decide +kernel
theorem dX15_updated_2 : decode cX15_updated 2 = .ok (.putfield 93, 3) := by decide +kernel
theorem dX15_updated_5 : decode cX15_updated 5 = .ok (.aload_n 0, 1) := by decide +kernel
theorem dX15_updated_6 : decode cX15_updated 6 = .ok (.iload_n 1, 1) := by decide +kernel
theorem dX15_updated_7 : decode cX15_updated 7 = .ok (.iload_n 2, 1) := by decide +kernel
theorem dX15_updated_8 : decode cX15_updated 8 = .ok (.invokevirtual 409, 3) := by decide +kernel
theorem dX15_updated_11 : decode cX15_updated 11 = .ok (.ifCond .eq 17, 3) := by decide +kernel
theorem dX15_updated_14 : decode cX15_updated 14 = .ok (.aload_n 0, 1) := by decide +kernel
theorem dX15_updated_15 : decode cX15_updated 15 = .ok (.getfield 21, 3) := by decide +kernel
theorem dX15_updated_18 : decode cX15_updated 18 = .ok (.iload_n 1, 1) := by decide +kernel
theorem dX15_updated_19 : decode cX15_updated 19 = .ok (.aaload, 1) := by decide +kernel
theorem dX15_updated_20 : decode cX15_updated 20 = .ok (.getfield 200, 3) := by decide +kernel
theorem dX15_updated_23 : decode cX15_updated 23 = .ok (.iload_n 2, 1) := by decide +kernel
theorem dX15_updated_24 : decode cX15_updated 24 = .ok (.iaload, 1) := by decide +kernel
theorem dX15_updated_25 : decode cX15_updated 25 = .ok (.goto 4, 3) := by decide +kernel
theorem dX15_updated_28 : decode cX15_updated 28 = .ok (.iconst (-1), 1) := by decide +kernel
theorem dX15_updated_29 : decode cX15_updated 29 = .ok (.ireturn, 1) := by decide +kernel
theorem dX15_hundredths_0 : decode cX15_hundredths 0 = .ok (.aload_n 0, 1) := by decide +kernel
theorem dX15_hundredths_1 : decode cX15_hundredths 1 = .ok (.iconst 0, 1) := by decide +kernel
theorem dX15_hundredths_2 : decode cX15_hundredths 2 = .ok (.putfield 93, 3) := by decide +kernel
theorem dX15_hundredths_5 : decode cX15_hundredths 5 = .ok (.aload_n 0, 1) := by decide +kernel
theorem dX15_hundredths_6 : decode cX15_hundredths 6 = .ok (.iload_n 1, 1) := by decide +kernel
theorem dX15_hundredths_7 : decode cX15_hundredths 7 = .ok (.iload_n 2, 1) := by decide +kernel
theorem dX15_hundredths_8 : decode cX15_hundredths 8 = .ok (.invokevirtual 409, 3) := by decide +kernel
theorem dX15_hundredths_11 : decode cX15_hundredths 11 = .ok (.ifCond .eq 19, 3) := by decide +kernel
theorem dX15_hundredths_14 : decode cX15_hundredths 14 = .ok (.aload_n 0, 1) := by decide +kernel
theorem dX15_hundredths_15 : decode cX15_hundredths 15 = .ok (.getfield 21, 3) := by decide +kernel
theorem dX15_hundredths_18 : decode cX15_hundredths 18 = .ok (.iload_n 1, 1) := by decide +kernel
theorem dX15_hundredths_19 : decode cX15_hundredths 19 = .ok (.aaload, 1) := by decide +kernel
theorem dX15_hundredths_20 : decode cX15_hundredths 20 = .ok (.getfield 167, 3) := by decide +kernel
theorem dX15_hundredths_23 : decode cX15_hundredths 23 = .ok (.iload_n 2, 1) := by decide +kernel
theorem dX15_hundredths_24 : decode cX15_hundredths 24 = .ok (.iaload, 1) := by decide +kernel
theorem dX15_hundredths_25 : decode cX15_hundredths 25 = .ok (.bipush 16, 2) := by decide +kernel
theorem dX15_hundredths_27 : decode cX15_hundredths 27 = .ok (.if_icmp .eq 7, 3) := by decide +kernel
theorem dX15_hundredths_30 : decode cX15_hundredths 30 = .ok (.ldc2_w 426, 3) := by decide +kernel
theorem dX15_hundredths_33 : decode cX15_hundredths 33 = .ok (.lreturn, 1) := by decide +kernel
theorem dX15_hundredths_34 : decode cX15_hundredths 34 = .ok (.aload_n 0, 1) := by decide +kernel
theorem dX15_hundredths_35 : decode cX15_hundredths 35 = .ok (.getfield 21, 3) := by decide +kernel
theorem dX15_hundredths_38 : decode cX15_hundredths 38 = .ok (.iload_n 1, 1) := by decide +kernel
theorem dX15_hundredths_39 : decode cX15_hundredths 39 = .ok (.aaload, 1) := by decide +kernel
theorem dX15_hundredths_40 : decode cX15_hundredths 40 = .ok (.getfield 174, 3) := by decide +kernel
theorem dX15_hundredths_43 : decode cX15_hundredths 43 = .ok (.iload_n 2, 1) := by decide +kernel
theorem dX15_hundredths_44 : decode cX15_hundredths 44 = .ok (.iaload, 1) := by decide +kernel
theorem dX15_hundredths_45 : decode cX15_hundredths 45 = .ok (.istore_n 3, 1) := by decide +kernel
theorem dX15_hundredths_46 : decode cX15_hundredths 46 = .ok (.iload_n 3, 1) := by decide +kernel
theorem dX15_hundredths_47 : decode cX15_hundredths 47 = .ok (.sipush 2048, 3) := by decide +kernel
theorem dX15_hundredths_50 : decode cX15_hundredths 50 = .ok (.irem, 1) := by decide +kernel
theorem dX15_hundredths_51 : decode cX15_hundredths 51 = .ok (.iload_n 3, 1) := by decide +kernel
theorem dX15_hundredths_52 : decode cX15_hundredths 52 = .ok (.ldc_w 428, 3) := by decide +kernel
theorem dX15_hundredths_55 : decode cX15_hundredths 55 = .ok (.if_icmp .lt 9, 3) := by decide +kernel
theorem dX15_hundredths_58 : decode cX15_hundredths 58 = .ok (.sipush 2048, 3) := by decide +kernel
theorem dX15_hundredths_61 : decode cX15_hundredths 61 = .ok (.goto 4, 3) := by decide +kernel
theorem dX15_hundredths_64 : decode cX15_hundredths 64 = .ok (.iconst 0, 1) := by decide +kernel
theorem dX15_hundredths_65 : decode cX15_hundredths 65 = .ok (.isub, 1) := by decide +kernel
theorem dX15_hundredths_66 : decode cX15_hundredths 66 = .ok (.istore 4, 2) := by decide +kernel
theorem dX15_hundredths_68 : decode cX15_hundredths 68 = .ok (.iload 4, 2) := by decide +kernel
theorem dX15_hundredths_70 : decode cX15_hundredths 70 = .ok (.i2l, 1) := by decide +kernel
theorem dX15_hundredths_71 : decode cX15_hundredths 71 = .ok (.iconst 1, 1) := by decide +kernel
theorem dX15_hundredths_72 : decode cX15_hundredths 72 = .ok (.iload_n 3, 1) := by decide +kernel
theorem dX15_hundredths_73 : decode cX15_hundredths 73 = .ok (.sipush 2048, 3) := by decide +kernel
theorem dX15_hundredths_76 : decode cX15_hundredths 76 = .ok (.idiv, 1) := by decide +kernel
theorem dX15_hundredths_77 : decode cX15_hundredths 77 = .ok (.bipush 16, 2) := by decide +kernel
theorem dX15_hundredths_79 : decode cX15_hundredths 79 = .ok (.irem, 1) := by decide +kernel
theorem dX15_hundredths_80 : decode cX15_hundredths 80 = .ok (.ishl, 1) := by decide +kernel
theorem dX15_hundredths_81 : decode cX15_hundredths 81 = .ok (.i2l, 1) := by decide +kernel
theorem dX15_hundredths_82 : decode cX15_hundredths 82 = .ok (.lmul, 1) := by decide +kernel
theorem dX15_hundredths_83 : decode cX15_hundredths 83 = .ok (.lreturn, 1) := by decide +kernel
theorem dX15_point_0 : decode cX15_point 0 = .ok (.aload_n 0, 1) := by decide +kernel
theorem dX15_point_1 : decode cX15_point 1 = .ok (.iconst 0, 1) := by decide +kernel
theorem dX15_point_2 : decode cX15_point 2 = .ok (.putfield 93, 3) := by decide +kernel
theorem dX15_point_5 : decode cX15_point 5 = .ok (.aload_n 0, 1) := by decide +kernel
theorem dX15_point_6 : decode cX15_point 6 = .ok (.iload_n 1, 1) := by decide +kernel
theorem dX15_point_7 : decode cX15_point 7 = .ok (.iload_n 2, 1) := by decide +kernel
theorem dX15_point_8 : decode cX15_point 8 = .ok (.invokevirtual 409, 3) := by decide +kernel
theorem dX15_point_11 : decode cX15_point 11 = .ok (.ifCond .eq 19, 3) := by decide +kernel
theorem dX15_point_14 : decode cX15_point 14 = .ok (.aload_n 0, 1) := by decide +kernel
theorem dX15_point_15 : decode cX15_point 15 = .ok (.getfield 21, 3) := by decide +kernel
theorem dX15_point_18 : decode cX15_point 18 = .ok (.iload_n 1, 1) := by decide +kernel
theorem dX15_point_19 : decode cX15_point 19 = .ok (.aaload, 1) := by decide +kernel
theorem dX15_point_20 : decode cX15_point 20 = .ok (.getfield 167, 3) := by decide +kernel
theorem dX15_point_23 : decode cX15_point 23 = .ok (.iload_n 2, 1) := by decide +kernel
theorem dX15_point_24 : decode cX15_point 24 = .ok (.iaload, 1) := by decide +kernel
theorem dX15_point_25 : decode cX15_point 25 = .ok (.bipush 16, 2) := by decide +kernel
theorem dX15_point_27 : decode cX15_point 27 = .ok (.if_icmp .eq 5, 3) := by decide +kernel
theorem dX15_point_30 : decode cX15_point 30 = .ok (.iconst (-1), 1) := by decide +kernel
theorem dX15_point_31 : decode cX15_point 31 = .ok (.ireturn, 1) := by decide +kernel
theorem dX15_point_32 : decode cX15_point 32 = .ok (.iconst 0, 1) := by decide +kernel
theorem dX15_point_33 : decode cX15_point 33 = .ok (.istore 4, 2) := by decide +kernel
theorem dX15_point_35 : decode cX15_point 35 = .ok (.iload 4, 2) := by decide +kernel
theorem dX15_point_37 : decode cX15_point 37 = .ok (.bipush 16, 2) := by decide +kernel
theorem dX15_point_39 : decode cX15_point 39 = .ok (.if_icmp .ge 67, 3) := by decide +kernel
theorem dX15_point_42 : decode cX15_point 42 = .ok (.iload_n 3, 1) := by decide +kernel
theorem dX15_point_43 : decode cX15_point 43 = .ok (.iload 4, 2) := by decide +kernel
theorem dX15_point_45 : decode cX15_point 45 = .ok (.ishr, 1) := by decide +kernel
theorem dX15_point_46 : decode cX15_point 46 = .ok (.istore 5, 2) := by decide +kernel
theorem dX15_point_48 : decode cX15_point 48 = .ok (.iload 5, 2) := by decide +kernel
theorem dX15_point_50 : decode cX15_point 50 = .ok (.sipush (-2048), 3) := by decide +kernel
theorem dX15_point_53 : decode cX15_point 53 = .ok (.sipush 2047, 3) := by decide +kernel
theorem dX15_point_56 : decode cX15_point 56 = .ok (.invokestatic 135, 3) := by decide +kernel
theorem dX15_point_59 : decode cX15_point 59 = .ok (.ifCond .eq 41, 3) := by decide +kernel
theorem dX15_point_62 : decode cX15_point 62 = .ok (.aload_n 0, 1) := by decide +kernel
theorem dX15_point_63 : decode cX15_point 63 = .ok (.aload_n 0, 1) := by decide +kernel
theorem dX15_point_64 : decode cX15_point 64 = .ok (.getfield 21, 3) := by decide +kernel
theorem dX15_point_67 : decode cX15_point 67 = .ok (.iload_n 1, 1) := by decide +kernel
theorem dX15_point_68 : decode cX15_point 68 = .ok (.aaload, 1) := by decide +kernel
theorem dX15_point_69 : decode cX15_point 69 = .ok (.iload_n 2, 1) := by decide +kernel
theorem dX15_point_70 : decode cX15_point 70 = .ok (.iload 5, 2) := by decide +kernel
theorem dX15_point_72 : decode cX15_point 72 = .ok (.ifCond .ge 9, 3) := by decide +kernel
theorem dX15_point_75 : decode cX15_point 75 = .ok (.ldc_w 428, 3) := by decide +kernel
theorem dX15_point_78 : decode cX15_point 78 = .ok (.goto 4, 3) := by decide +kernel
theorem dX15_point_81 : decode cX15_point 81 = .ok (.iconst 0, 1) := by decide +kernel
theorem dX15_point_82 : decode cX15_point 82 = .ok (.sipush 2048, 3) := by decide +kernel
theorem dX15_point_85 : decode cX15_point 85 = .ok (.iload 4, 2) := by decide +kernel
theorem dX15_point_87 : decode cX15_point 87 = .ok (.imul, 1) := by decide +kernel
theorem dX15_point_88 : decode cX15_point 88 = .ok (.iadd, 1) := by decide +kernel
theorem dX15_point_89 : decode cX15_point 89 = .ok (.iload 5, 2) := by decide +kernel
theorem dX15_point_91 : decode cX15_point 91 = .ok (.sipush 2047, 3) := by decide +kernel
theorem dX15_point_94 : decode cX15_point 94 = .ok (.iand, 1) := by decide +kernel
theorem dX15_point_95 : decode cX15_point 95 = .ok (.iadd, 1) := by decide +kernel
theorem dX15_point_96 : decode cX15_point 96 = .ok (.invokevirtual 417, 3) := by decide +kernel
theorem dX15_point_99 : decode cX15_point 99 = .ok (.ireturn, 1) := by decide +kernel
theorem dX15_point_100 : decode cX15_point 100 = .ok (.iinc 4 1, 3) := by decide +kernel
theorem dX15_point_103 : decode cX15_point 103 = .ok (.goto (-68), 3) := by decide +kernel
theorem dX15_point_106 : decode cX15_point 106 = .ok (.iconst (-1), 1) := by decide +kernel
theorem dX15_point_107 : decode cX15_point 107 = .ok (.ireturn, 1) := by decide +kernel
theorem dX15_connect_0 : decode cX15_connect 0 = .ok (.aload_n 0, 1) := by decide +kernel
theorem dX15_connect_1 : decode cX15_connect 1 = .ok (.iconst 0, 1) := by decide +kernel
theorem dX15_connect_2 : decode cX15_connect 2 = .ok (.putfield 93, 3) := by decide +kernel
theorem dX15_connect_5 : decode cX15_connect 5 = .ok (.aload_n 0, 1) := by decide +kernel
theorem dX15_connect_6 : decode cX15_connect 6 = .ok (.iload_n 1, 1) := by decide +kernel
theorem dX15_connect_7 : decode cX15_connect 7 = .ok (.invokevirtual 145, 3) := by decide +kernel
theorem dX15_connect_10 : decode cX15_connect 10 = .ok (.ifCond .eq 43, 3) := by decide +kernel
theorem dX15_connect_13 : decode cX15_connect 13 = .ok (.iload_n 2, 1) := by decide +kernel
theorem dX15_connect_14 : decode cX15_connect 14 = .ok (.iconst 0, 1) := by decide +kernel
theorem dX15_connect_15 : decode cX15_connect 15 = .ok (.ldc_w 405, 3) := by decide +kernel
theorem dX15_connect_18 : decode cX15_connect 18 = .ok (.invokestatic 135, 3) := by decide +kernel
theorem dX15_connect_21 : decode cX15_connect 21 = .ok (.ifCond .eq 32, 3) := by decide +kernel
theorem dX15_connect_24 : decode cX15_connect 24 = .ok (.aload_n 0, 1) := by decide +kernel
theorem dX15_connect_25 : decode cX15_connect 25 = .ok (.getfield 21, 3) := by decide +kernel
theorem dX15_connect_28 : decode cX15_connect 28 = .ok (.iload_n 1, 1) := by decide +kernel
theorem dX15_connect_29 : decode cX15_connect 29 = .ok (.aaload, 1) := by decide +kernel
theorem dX15_connect_30 : decode cX15_connect 30 = .ok (.getfield 210, 3) := by decide +kernel
theorem dX15_connect_33 : decode cX15_connect 33 = .ok (.ifCond .ne 20, 3) := by decide +kernel
theorem dX15_connect_36 : decode cX15_connect 36 = .ok (.aload_n 0, 1) := by decide +kernel
theorem dX15_connect_37 : decode cX15_connect 37 = .ok (.getfield 21, 3) := by decide +kernel
theorem dX15_connect_40 : decode cX15_connect 40 = .ok (.iload_n 1, 1) := by decide +kernel
theorem dX15_connect_41 : decode cX15_connect 41 = .ok (.aaload, 1) := by decide +kernel
theorem dX15_connect_42 : decode cX15_connect 42 = .ok (.getfield 155, 3) := by decide +kernel
theorem dX15_connect_45 : decode cX15_connect 45 = .ok (.getfield 96, 3) := by decide +kernel
theorem dX15_connect_48 : decode cX15_connect 48 = .ok (.bipush 8, 2) := by decide +kernel
theorem dX15_connect_50 : decode cX15_connect 50 = .ok (.if_icmp .ne 5, 3) := by decide +kernel
theorem dX15_connect_53 : decode cX15_connect 53 = .ok (.iconst 0, 1) := by decide +kernel
theorem dX15_connect_54 : decode cX15_connect 54 = .ok (.ireturn, 1) := by decide +kernel
theorem dX15_connect_55 : decode cX15_connect 55 = .ok (.aload_n 0, 1) := by decide +kernel
theorem dX15_connect_56 : decode cX15_connect 56 = .ok (.getfield 21, 3) := by decide +kernel
theorem dX15_connect_59 : decode cX15_connect 59 = .ok (.iload_n 1, 1) := by decide +kernel
theorem dX15_connect_60 : decode cX15_connect 60 = .ok (.aaload, 1) := by decide +kernel
theorem dX15_connect_61 : decode cX15_connect 61 = .ok (.astore_n 3, 1) := by decide +kernel
theorem dX15_connect_62 : decode cX15_connect 62 = .ok (.aload_n 3, 1) := by decide +kernel
theorem dX15_connect_63 : decode cX15_connect 63 = .ok (.iconst 3, 1) := by decide +kernel
theorem dX15_connect_64 : decode cX15_connect 64 = .ok (.putfield 210, 3) := by decide +kernel
theorem dX15_connect_67 : decode cX15_connect 67 = .ok (.aload_n 3, 1) := by decide +kernel
theorem dX15_connect_68 : decode cX15_connect 68 = .ok (.iload_n 2, 1) := by decide +kernel
theorem dX15_connect_69 : decode cX15_connect 69 = .ok (.putfield 203, 3) := by decide +kernel
theorem dX15_connect_72 : decode cX15_connect 72 = .ok (.aload_n 3, 1) := by decide +kernel
theorem dX15_connect_73 : decode cX15_connect 73 = .ok (.iconst 0, 1) := by decide +kernel
theorem dX15_connect_74 : decode cX15_connect 74 = .ok (.putfield 216, 3) := by decide +kernel
theorem dX15_connect_77 : decode cX15_connect 77 = .ok (.aload_n 3, 1) := by decide +kernel
theorem dX15_connect_78 : decode cX15_connect 78 = .ok (.iconst 0, 1) := by decide +kernel
theorem dX15_connect_79 : decode cX15_connect 79 = .ok (.putfield 246, 3) := by decide +kernel
theorem dX15_connect_82 : decode cX15_connect 82 = .ok (.aload_n 3, 1) := by decide +kernel
theorem dX15_connect_83 : decode cX15_connect 83 = .ok (.aload_n 0, 1) := by decide +kernel
theorem dX15_connect_84 : decode cX15_connect 84 = .ok (.aload_n 3, 1) := by decide +kernel
theorem dX15_connect_85 : decode cX15_connect 85 = .ok (.iload_n 2, 1) := by decide +kernel
theorem dX15_connect_86 : decode cX15_connect 86 = .ok (.sipush 128, 3) := by decide +kernel
theorem dX15_connect_89 : decode cX15_connect 89 = .ok (.invokevirtual 206, 3) := by decide +kernel
theorem dX15_connect_92 : decode cX15_connect 92 = .ok (.putfield 396, 3) := by decide +kernel
theorem dX15_connect_95 : decode cX15_connect 95 = .ok (.iconst 1, 1) := by decide +kernel
theorem dX15_connect_96 : decode cX15_connect 96 = .ok (.ireturn, 1) := by decide +kernel
theorem dX15_disconnect_0 : decode cX15_disconnect 0 = .ok (.aload_n 0, 1) := by decide +kernel
theorem dX15_disconnect_1 : decode cX15_disconnect 1 = .ok (.iconst 0, 1) := by decide +kernel
theorem dX15_disconnect_2 : decode cX15_disconnect 2 = .ok (.putfield 93, 3) := by decide +kernel
theorem dX15_disconnect_5 : decode cX15_disconnect 5 = .ok (.aload_n 0, 1) := by decide +kernel
theorem dX15_disconnect_6 : decode cX15_disconnect 6 = .ok (.iload_n 1, 1) := by decide +kernel
theorem dX15_disconnect_7 : decode cX15_disconnect 7 = .ok (.invokevirtual 145, 3) := by decide +kernel
theorem dX15_disconnect_10 : decode cX15_disconnect 10 = .ok (.ifCond .eq 15, 3) := by decide +kernel
theorem dX15_disconnect_13 : decode cX15_disconnect 13 = .ok (.aload_n 0, 1) := by decide +kernel
theorem dX15_disconnect_14 : decode cX15_disconnect 14 = .ok (.getfield 21, 3) := by decide +kernel
theorem dX15_disconnect_17 : decode cX15_disconnect 17 = .ok (.iload_n 1, 1) := by decide +kernel
theorem dX15_disconnect_18 : decode cX15_disconnect 18 = .ok (.aaload, 1) := by decide +kernel
theorem dX15_disconnect_19 : decode cX15_disconnect 19 = .ok (.getfield 210, 3) := by decide +kernel
theorem dX15_disconnect_22 : decode cX15_disconnect 22 = .ok (.ifCond .ne 5, 3) := by decide +kernel
theorem dX15_disconnect_25 : decode cX15_disconnect 25 = .ok (.iconst 0, 1) := by decide +kernel
theorem dX15_disconnect_26 : decode cX15_disconnect 26 = .ok (.ireturn, 1) := by decide +kernel
theorem dX15_disconnect_27 : decode cX15_disconnect 27 = .ok (.aload_n 0, 1) := by decide +kernel
theorem dX15_disconnect_28 : decode cX15_disconnect 28 = .ok (.aload_n 0, 1) := by decide +kernel
theorem dX15_disconnect_29 : decode cX15_disconnect 29 = .ok (.getfield 21, 3) := by decide +kernel
theorem dX15_disconnect_32 : decode cX15_disconnect 32 = .ok (.iload_n 1, 1) := by decide +kernel
theorem dX15_disconnect_33 : decode cX15_disconnect 33 = .ok (.aaload, 1) := by decide +kernel
theorem dX15_disconnect_34 : decode cX15_disconnect 34 = .ok (.invokevirtual 231, 3) := by decide +kernel
theorem dX15_disconnect_37 : decode cX15_disconnect 37 = .ok (.iconst 1, 1) := by decide +kernel
theorem dX15_disconnect_38 : decode cX15_disconnect 38 = .ok (.ireturn, 1) := by decide +kernel
theorem dX15_mayOrder_0 : decode cX15_mayOrder 0 = .ok (.aload_n 0, 1) := by decide +kernel
theorem dX15_mayOrder_1 : decode cX15_mayOrder 1 = .ok (.iload_n 1, 1) := by decide +kernel
theorem dX15_mayOrder_2 : decode cX15_mayOrder 2 = .ok (.invokevirtual 145, 3) := by decide +kernel
theorem dX15_mayOrder_5 : decode cX15_mayOrder 5 = .ok (.ifCond .eq 58, 3) := by decide +kernel
theorem dX15_mayOrder_8 : decode cX15_mayOrder 8 = .ok (.aload_n 0, 1) := by decide +kernel
theorem dX15_mayOrder_9 : decode cX15_mayOrder 9 = .ok (.getfield 21, 3) := by decide +kernel
theorem dX15_mayOrder_12 : decode cX15_mayOrder 12 = .ok (.iload_n 1, 1) := by decide +kernel
theorem dX15_mayOrder_13 : decode cX15_mayOrder 13 = .ok (.aaload, 1) := by decide +kernel
theorem dX15_mayOrder_14 : decode cX15_mayOrder 14 = .ok (.getfield 210, 3) := by decide +kernel
theorem dX15_mayOrder_17 : decode cX15_mayOrder 17 = .ok (.iconst 1, 1) := by decide +kernel
theorem dX15_mayOrder_18 : decode cX15_mayOrder 18 = .ok (.if_icmp .ne 45, 3) := by decide +kernel
theorem dX15_mayOrder_21 : decode cX15_mayOrder 21 = .ok (.aload_n 0, 1) := by decide +kernel
theorem dX15_mayOrder_22 : decode cX15_mayOrder 22 = .ok (.getfield 21, 3) := by decide +kernel
theorem dX15_mayOrder_25 : decode cX15_mayOrder 25 = .ok (.iload_n 1, 1) := by decide +kernel
theorem dX15_mayOrder_26 : decode cX15_mayOrder 26 = .ok (.aaload, 1) := by decide +kernel
theorem dX15_mayOrder_27 : decode cX15_mayOrder 27 = .ok (.getfield 155, 3) := by decide +kernel
theorem dX15_mayOrder_30 : decode cX15_mayOrder 30 = .ok (.getfield 96, 3) := by decide +kernel
theorem dX15_mayOrder_33 : decode cX15_mayOrder 33 = .ok (.bipush 8, 2) := by decide +kernel
theorem dX15_mayOrder_35 : decode cX15_mayOrder 35 = .ok (.if_icmp .ge 28, 3) := by decide +kernel
theorem dX15_mayOrder_38 : decode cX15_mayOrder 38 = .ok (.iload_n 2, 1) := by decide +kernel
theorem dX15_mayOrder_39 : decode cX15_mayOrder 39 = .ok (.iconst 0, 1) := by decide +kernel
theorem dX15_mayOrder_40 : decode cX15_mayOrder 40 = .ok (.ldc_w 405, 3) := by decide +kernel
theorem dX15_mayOrder_43 : decode cX15_mayOrder 43 = .ok (.invokestatic 135, 3) := by decide +kernel
theorem dX15_mayOrder_46 : decode cX15_mayOrder 46 = .ok (.ifCond .eq 17, 3) := by decide +kernel
theorem dX15_mayOrder_49 : decode cX15_mayOrder 49 = .ok (.iload_n 3, 1) := by decide +kernel
theorem dX15_mayOrder_50 : decode cX15_mayOrder 50 = .ok (.iconst 1, 1) := by decide +kernel
theorem dX15_mayOrder_51 : decode cX15_mayOrder 51 = .ok (.iload 4, 2) := by decide +kernel
theorem dX15_mayOrder_53 : decode cX15_mayOrder 53 = .ok (.invokestatic 135, 3) := by decide +kernel
theorem dX15_mayOrder_56 : decode cX15_mayOrder 56 = .ok (.ifCond .eq 7, 3) := by decide +kernel
theorem dX15_mayOrder_59 : decode cX15_mayOrder 59 = .ok (.iconst 1, 1) := by decide +kernel
theorem dX15_mayOrder_60 : decode cX15_mayOrder 60 = .ok (.goto 4, 3) := by decide +kernel
theorem dX15_mayOrder_63 : decode cX15_mayOrder 63 = .ok (.iconst 0, 1) := by decide +kernel
theorem dX15_mayOrder_64 : decode cX15_mayOrder 64 = .ok (.ireturn, 1) := by decide +kernel
theorem dX15_peek_0 : decode cX15_peek 0 = .ok (.aload_n 0, 1) := by decide +kernel
theorem dX15_peek_1 : decode cX15_peek 1 = .ok (.iconst 0, 1) := by decide +kernel
theorem dX15_peek_2 : decode cX15_peek 2 = .ok (.putfield 93, 3) := by decide +kernel
theorem dX15_peek_5 : decode cX15_peek 5 = .ok (.aload_n 0, 1) := by decide +kernel
theorem dX15_peek_6 : decode cX15_peek 6 = .ok (.iload_n 1, 1) := by decide +kernel
theorem dX15_peek_7 : decode cX15_peek 7 = .ok (.iload_n 2, 1) := by decide +kernel
theorem dX15_peek_8 : decode cX15_peek 8 = .ok (.iload_n 3, 1) := by decide +kernel
theorem dX15_peek_9 : decode cX15_peek 9 = .ok (.bipush 12, 2) := by decide +kernel
theorem dX15_peek_11 : decode cX15_peek 11 = .ok (.invokevirtual 429, 3) := by decide +kernel
theorem dX15_peek_14 : decode cX15_peek 14 = .ok (.ifCond .ne 5, 3) := by decide +kernel
theorem dX15_peek_17 : decode cX15_peek 17 = .ok (.iconst 0, 1) := by decide +kernel
theorem dX15_peek_18 : decode cX15_peek 18 = .ok (.ireturn, 1) := by decide +kernel
theorem dX15_peek_19 : decode cX15_peek 19 = .ok (.aload_n 0, 1) := by decide +kernel
theorem dX15_peek_20 : decode cX15_peek 20 = .ok (.getfield 84, 3) := by decide +kernel
theorem dX15_peek_23 : decode cX15_peek 23 = .ok (.iconst 1, 1) := by decide +kernel
theorem dX15_peek_24 : decode cX15_peek 24 = .ok (.iload_n 3, 1) := by decide +kernel
theorem dX15_peek_25 : decode cX15_peek 25 = .ok (.iastore, 1) := by decide +kernel
theorem dX15_peek_26 : decode cX15_peek 26 = .ok (.aload_n 0, 1) := by decide +kernel
theorem dX15_peek_27 : decode cX15_peek 27 = .ok (.getfield 84, 3) := by decide +kernel
theorem dX15_peek_30 : decode cX15_peek 30 = .ok (.iconst 2, 1) := by decide +kernel
theorem dX15_peek_31 : decode cX15_peek 31 = .ok (.iload_n 2, 1) := by decide +kernel
theorem dX15_peek_32 : decode cX15_peek 32 = .ok (.sipush 256, 3) := by decide +kernel
theorem dX15_peek_35 : decode cX15_peek 35 = .ok (.idiv, 1) := by decide +kernel
theorem dX15_peek_36 : decode cX15_peek 36 = .ok (.iastore, 1) := by decide +kernel
theorem dX15_peek_37 : decode cX15_peek 37 = .ok (.aload_n 0, 1) := by decide +kernel
theorem dX15_peek_38 : decode cX15_peek 38 = .ok (.getfield 84, 3) := by decide +kernel
theorem dX15_peek_41 : decode cX15_peek 41 = .ok (.iconst 3, 1) := by decide +kernel
theorem dX15_peek_42 : decode cX15_peek 42 = .ok (.iload_n 2, 1) := by decide +kernel
theorem dX15_peek_43 : decode cX15_peek 43 = .ok (.sipush 256, 3) := by decide +kernel
theorem dX15_peek_46 : decode cX15_peek 46 = .ok (.irem, 1) := by decide +kernel
theorem dX15_peek_47 : decode cX15_peek 47 = .ok (.iastore, 1) := by decide +kernel
theorem dX15_peek_48 : decode cX15_peek 48 = .ok (.aload_n 0, 1) := by decide +kernel
theorem dX15_peek_49 : decode cX15_peek 49 = .ok (.aload_n 0, 1) := by decide +kernel
theorem dX15_peek_50 : decode cX15_peek 50 = .ok (.getfield 21, 3) := by decide +kernel
theorem dX15_peek_53 : decode cX15_peek 53 = .ok (.iload_n 1, 1) := by decide +kernel
theorem dX15_peek_54 : decode cX15_peek 54 = .ok (.aaload, 1) := by decide +kernel
theorem dX15_peek_55 : decode cX15_peek 55 = .ok (.aload_n 0, 1) := by decide +kernel
theorem dX15_peek_56 : decode cX15_peek 56 = .ok (.getfield 84, 3) := by decide +kernel
theorem dX15_peek_59 : decode cX15_peek 59 = .ok (.iconst 4, 1) := by decide +kernel
theorem dX15_peek_60 : decode cX15_peek 60 = .ok (.invokevirtual 259, 3) := by decide +kernel
theorem dX15_peek_63 : decode cX15_peek 63 = .ok (.iconst 1, 1) := by decide +kernel
theorem dX15_peek_64 : decode cX15_peek 64 = .ok (.ireturn, 1) := by decide +kernel
theorem dX15_poke_0 : decode cX15_poke 0 = .ok (.aload_n 0, 1) := by decide +kernel
theorem dX15_poke_1 : decode cX15_poke 1 = .ok (.iconst 0, 1) := by decide +kernel
theorem dX15_poke_2 : decode cX15_poke 2 = .ok (.putfield 93, 3) := by decide +kernel
theorem dX15_poke_5 : decode cX15_poke 5 = .ok (.aload_n 0, 1) := by decide +kernel
theorem dX15_poke_6 : decode cX15_poke 6 = .ok (.iload_n 1, 1) := by decide +kernel
theorem dX15_poke_7 : decode cX15_poke 7 = .ok (.iload_n 2, 1) := by decide +kernel
theorem dX15_poke_8 : decode cX15_poke 8 = .ok (.iload_n 3, 1) := by decide +kernel
theorem dX15_poke_9 : decode cX15_poke 9 = .ok (.iconst 4, 1) := by decide +kernel
theorem dX15_poke_10 : decode cX15_poke 10 = .ok (.invokevirtual 429, 3) := by decide +kernel
theorem dX15_poke_13 : decode cX15_poke 13 = .ok (.ifCond .ne 5, 3) := by decide +kernel
theorem dX15_poke_16 : decode cX15_poke 16 = .ok (.iconst 0, 1) := by decide +kernel
theorem dX15_poke_17 : decode cX15_poke 17 = .ok (.ireturn, 1) := by decide +kernel
theorem dX15_poke_18 : decode cX15_poke 18 = .ok (.aload_n 0, 1) := by decide +kernel
theorem dX15_poke_19 : decode cX15_poke 19 = .ok (.getfield 84, 3) := by decide +kernel
theorem dX15_poke_22 : decode cX15_poke 22 = .ok (.iconst 1, 1) := by decide +kernel
theorem dX15_poke_23 : decode cX15_poke 23 = .ok (.sipush 128, 3) := by decide +kernel
theorem dX15_poke_26 : decode cX15_poke 26 = .ok (.iload_n 3, 1) := by decide +kernel
theorem dX15_poke_27 : decode cX15_poke 27 = .ok (.iadd, 1) := by decide +kernel
theorem dX15_poke_28 : decode cX15_poke 28 = .ok (.iastore, 1) := by decide +kernel
theorem dX15_poke_29 : decode cX15_poke 29 = .ok (.aload_n 0, 1) := by decide +kernel
theorem dX15_poke_30 : decode cX15_poke 30 = .ok (.getfield 84, 3) := by decide +kernel
theorem dX15_poke_33 : decode cX15_poke 33 = .ok (.iconst 2, 1) := by decide +kernel
theorem dX15_poke_34 : decode cX15_poke 34 = .ok (.iload_n 2, 1) := by decide +kernel
theorem dX15_poke_35 : decode cX15_poke 35 = .ok (.sipush 256, 3) := by decide +kernel
theorem dX15_poke_38 : decode cX15_poke 38 = .ok (.idiv, 1) := by decide +kernel
theorem dX15_poke_39 : decode cX15_poke 39 = .ok (.iastore, 1) := by decide +kernel
theorem dX15_poke_40 : decode cX15_poke 40 = .ok (.aload_n 0, 1) := by decide +kernel
theorem dX15_poke_41 : decode cX15_poke 41 = .ok (.getfield 84, 3) := by decide +kernel
theorem dX15_poke_44 : decode cX15_poke 44 = .ok (.iconst 3, 1) := by decide +kernel
theorem dX15_poke_45 : decode cX15_poke 45 = .ok (.iload_n 2, 1) := by decide +kernel
theorem dX15_poke_46 : decode cX15_poke 46 = .ok (.sipush 256, 3) := by decide +kernel
theorem dX15_poke_49 : decode cX15_poke 49 = .ok (.irem, 1) := by decide +kernel
theorem dX15_poke_50 : decode cX15_poke 50 = .ok (.iastore, 1) := by decide +kernel
theorem dX15_poke_51 : decode cX15_poke 51 = .ok (.iconst 0, 1) := by decide +kernel
theorem dX15_poke_52 : decode cX15_poke 52 = .ok (.istore 5, 2) := by decide +kernel
theorem dX15_poke_54 : decode cX15_poke 54 = .ok (.iload 5, 2) := by decide +kernel
theorem dX15_poke_56 : decode cX15_poke 56 = .ok (.iload_n 3, 1) := by decide +kernel
theorem dX15_poke_57 : decode cX15_poke 57 = .ok (.if_icmp .ge 34, 3) := by decide +kernel
theorem dX15_poke_60 : decode cX15_poke 60 = .ok (.aload_n 0, 1) := by decide +kernel
theorem dX15_poke_61 : decode cX15_poke 61 = .ok (.getfield 84, 3) := by decide +kernel
theorem dX15_poke_64 : decode cX15_poke 64 = .ok (.iconst 4, 1) := by decide +kernel
theorem dX15_poke_65 : decode cX15_poke 65 = .ok (.iload 5, 2) := by decide +kernel
theorem dX15_poke_67 : decode cX15_poke 67 = .ok (.iadd, 1) := by decide +kernel
theorem dX15_poke_68 : decode cX15_poke 68 = .ok (.iload 4, 2) := by decide +kernel
theorem dX15_poke_70 : decode cX15_poke 70 = .ok (.bipush 8, 2) := by decide +kernel
theorem dX15_poke_72 : decode cX15_poke 72 = .ok (.iload_n 3, 1) := by decide +kernel
theorem dX15_poke_73 : decode cX15_poke 73 = .ok (.iconst 1, 1) := by decide +kernel
theorem dX15_poke_74 : decode cX15_poke 74 = .ok (.isub, 1) := by decide +kernel
theorem dX15_poke_75 : decode cX15_poke 75 = .ok (.iload 5, 2) := by decide +kernel
theorem dX15_poke_77 : decode cX15_poke 77 = .ok (.isub, 1) := by decide +kernel
theorem dX15_poke_78 : decode cX15_poke 78 = .ok (.imul, 1) := by decide +kernel
theorem dX15_poke_79 : decode cX15_poke 79 = .ok (.ishr, 1) := by decide +kernel
theorem dX15_poke_80 : decode cX15_poke 80 = .ok (.sipush 255, 3) := by decide +kernel
theorem dX15_poke_83 : decode cX15_poke 83 = .ok (.iand, 1) := by decide +kernel
theorem dX15_poke_84 : decode cX15_poke 84 = .ok (.iastore, 1) := by decide +kernel
theorem dX15_poke_85 : decode cX15_poke 85 = .ok (.iinc 5 1, 3) := by decide +kernel
theorem dX15_poke_88 : decode cX15_poke 88 = .ok (.goto (-34), 3) := by decide +kernel
theorem dX15_poke_91 : decode cX15_poke 91 = .ok (.aload_n 0, 1) := by decide +kernel
theorem dX15_poke_92 : decode cX15_poke 92 = .ok (.aload_n 0, 1) := by decide +kernel
theorem dX15_poke_93 : decode cX15_poke 93 = .ok (.getfield 21, 3) := by decide +kernel
theorem dX15_poke_96 : decode cX15_poke 96 = .ok (.iload_n 1, 1) := by decide +kernel
theorem dX15_poke_97 : decode cX15_poke 97 = .ok (.aaload, 1) := by decide +kernel
theorem dX15_poke_98 : decode cX15_poke 98 = .ok (.aload_n 0, 1) := by decide +kernel
theorem dX15_poke_99 : decode cX15_poke 99 = .ok (.getfield 84, 3) := by decide +kernel
theorem dX15_poke_102 : decode cX15_poke 102 = .ok (.iconst 4, 1) := by decide +kernel
theorem dX15_poke_103 : decode cX15_poke 103 = .ok (.iload_n 3, 1) := by decide +kernel
theorem dX15_poke_104 : decode cX15_poke 104 = .ok (.iadd, 1) := by decide +kernel
theorem dX15_poke_105 : decode cX15_poke 105 = .ok (.invokevirtual 259, 3) := by decide +kernel
theorem dX15_poke_108 : decode cX15_poke 108 = .ok (.iconst 1, 1) := by decide +kernel
theorem dX15_poke_109 : decode cX15_poke 109 = .ok (.ireturn, 1) := by decide +kernel
theorem dX15_memory_0 : decode cX15_memory 0 = .ok (.aload_n 0, 1) := by decide +kernel
theorem dX15_memory_1 : decode cX15_memory 1 = .ok (.iconst 0, 1) := by decide +kernel
theorem dX15_memory_2 : decode cX15_memory 2 = .ok (.putfield 93, 3) := by decide +kernel
theorem dX15_memory_5 : decode cX15_memory 5 = .ok (.aload_n 0, 1) := by decide +kernel
theorem dX15_memory_6 : decode cX15_memory 6 = .ok (.iload_n 1, 1) := by decide +kernel
theorem dX15_memory_7 : decode cX15_memory 7 = .ok (.invokevirtual 145, 3) := by decide +kernel
theorem dX15_memory_10 : decode cX15_memory 10 = .ok (.ifCond .eq 27, 3) := by decide +kernel
theorem dX15_memory_13 : decode cX15_memory 13 = .ok (.iload_n 2, 1) := by decide +kernel
theorem dX15_memory_14 : decode cX15_memory 14 = .ok (.iconst 0, 1) := by decide +kernel
theorem dX15_memory_15 : decode cX15_memory 15 = .ok (.bipush 63, 2) := by decide +kernel
theorem dX15_memory_17 : decode cX15_memory 17 = .ok (.invokestatic 135, 3) := by decide +kernel
theorem dX15_memory_20 : decode cX15_memory 20 = .ok (.ifCond .eq 17, 3) := by decide +kernel
theorem dX15_memory_23 : decode cX15_memory 23 = .ok (.aload_n 0, 1) := by decide +kernel
theorem dX15_memory_24 : decode cX15_memory 24 = .ok (.getfield 21, 3) := by decide +kernel
theorem dX15_memory_27 : decode cX15_memory 27 = .ok (.iload_n 1, 1) := by decide +kernel
theorem dX15_memory_28 : decode cX15_memory 28 = .ok (.aaload, 1) := by decide +kernel
theorem dX15_memory_29 : decode cX15_memory 29 = .ok (.getfield 256, 3) := by decide +kernel
theorem dX15_memory_32 : decode cX15_memory 32 = .ok (.iload_n 2, 1) := by decide +kernel
theorem dX15_memory_33 : decode cX15_memory 33 = .ok (.iaload, 1) := by decide +kernel
theorem dX15_memory_34 : decode cX15_memory 34 = .ok (.goto 4, 3) := by decide +kernel
theorem dX15_memory_37 : decode cX15_memory 37 = .ok (.iconst (-1), 1) := by decide +kernel
theorem dX15_memory_38 : decode cX15_memory 38 = .ok (.ireturn, 1) := by decide +kernel
theorem dX15_store_0 : decode cX15_store 0 = .ok (.aload_n 0, 1) := by decide +kernel
theorem dX15_store_1 : decode cX15_store 1 = .ok (.iconst 0, 1) := by decide +kernel
theorem dX15_store_2 : decode cX15_store 2 = .ok (.putfield 93, 3) := by decide +kernel
theorem dX15_store_5 : decode cX15_store 5 = .ok (.aload_n 0, 1) := by decide +kernel
theorem dX15_store_6 : decode cX15_store 6 = .ok (.iload_n 1, 1) := by decide +kernel
theorem dX15_store_7 : decode cX15_store 7 = .ok (.invokevirtual 145, 3) := by decide +kernel
theorem dX15_store_10 : decode cX15_store 10 = .ok (.ifCond .eq 13, 3) := by decide +kernel
theorem dX15_store_13 : decode cX15_store 13 = .ok (.iload_n 2, 1) := by decide +kernel
theorem dX15_store_14 : decode cX15_store 14 = .ok (.iconst 0, 1) := by decide +kernel
theorem dX15_store_15 : decode cX15_store 15 = .ok (.bipush 63, 2) := by decide +kernel
theorem dX15_store_17 : decode cX15_store 17 = .ok (.invokestatic 135, 3) := by decide +kernel
theorem dX15_store_20 : decode cX15_store 20 = .ok (.ifCond .ne 5, 3) := by decide +kernel
theorem dX15_store_23 : decode cX15_store 23 = .ok (.iconst 0, 1) := by decide +kernel
theorem dX15_store_24 : decode cX15_store 24 = .ok (.ireturn, 1) := by decide +kernel
theorem dX15_store_25 : decode cX15_store 25 = .ok (.aload_n 0, 1) := by decide +kernel
theorem dX15_store_26 : decode cX15_store 26 = .ok (.getfield 21, 3) := by decide +kernel
theorem dX15_store_29 : decode cX15_store 29 = .ok (.iload_n 1, 1) := by decide +kernel
theorem dX15_store_30 : decode cX15_store 30 = .ok (.aaload, 1) := by decide +kernel
theorem dX15_store_31 : decode cX15_store 31 = .ok (.getfield 256, 3) := by decide +kernel
theorem dX15_store_34 : decode cX15_store 34 = .ok (.iload_n 2, 1) := by decide +kernel
theorem dX15_store_35 : decode cX15_store 35 = .ok (.iload_n 3, 1) := by decide +kernel
theorem dX15_store_36 : decode cX15_store 36 = .ok (.sipush 255, 3) := by decide +kernel
theorem dX15_store_39 : decode cX15_store 39 = .ok (.iand, 1) := by decide +kernel
theorem dX15_store_40 : decode cX15_store 40 = .ok (.iastore, 1) := by decide +kernel
theorem dX15_store_41 : decode cX15_store 41 = .ok (.iconst 1, 1) := by decide +kernel
theorem dX15_store_42 : decode cX15_store 42 = .ok (.ireturn, 1) := by decide +kernel
theorem dX15_reply_0 : decode cX15_reply 0 = .ok (.aload_n 0, 1) := by decide +kernel
theorem dX15_reply_1 : decode cX15_reply 1 = .ok (.iconst 0, 1) := by decide +kernel
theorem dX15_reply_2 : decode cX15_reply 2 = .ok (.putfield 93, 3) := by decide +kernel
theorem dX15_reply_5 : decode cX15_reply 5 = .ok (.aload_n 0, 1) := by decide +kernel
theorem dX15_reply_6 : decode cX15_reply 6 = .ok (.iload_n 1, 1) := by decide +kernel
theorem dX15_reply_7 : decode cX15_reply 7 = .ok (.invokevirtual 145, 3) := by decide +kernel
theorem dX15_reply_10 : decode cX15_reply 10 = .ok (.ifCond .ne 5, 3) := by decide +kernel
theorem dX15_reply_13 : decode cX15_reply 13 = .ok (.iconst (-1), 1) := by decide +kernel
theorem dX15_reply_14 : decode cX15_reply 14 = .ok (.ireturn, 1) := by decide +kernel
theorem dX15_reply_15 : decode cX15_reply 15 = .ok (.iload_n 2, 1) := by decide +kernel
theorem dX15_reply_16 : decode cX15_reply 16 = .ok (.iconst (-1), 1) := by decide +kernel
theorem dX15_reply_17 : decode cX15_reply 17 = .ok (.if_icmp .ne 15, 3) := by decide +kernel
theorem dX15_reply_20 : decode cX15_reply 20 = .ok (.aload_n 0, 1) := by decide +kernel
theorem dX15_reply_21 : decode cX15_reply 21 = .ok (.getfield 21, 3) := by decide +kernel
theorem dX15_reply_24 : decode cX15_reply 24 = .ok (.iload_n 1, 1) := by decide +kernel
theorem dX15_reply_25 : decode cX15_reply 25 = .ok (.aaload, 1) := by decide +kernel
theorem dX15_reply_26 : decode cX15_reply 26 = .ok (.getfield 262, 3) := by decide +kernel
theorem dX15_reply_29 : decode cX15_reply 29 = .ok (.goto 37, 3) := by decide +kernel
theorem dX15_reply_32 : decode cX15_reply 32 = .ok (.iload_n 2, 1) := by decide +kernel
theorem dX15_reply_33 : decode cX15_reply 33 = .ok (.iconst 0, 1) := by decide +kernel
theorem dX15_reply_34 : decode cX15_reply 34 = .ok (.aload_n 0, 1) := by decide +kernel
theorem dX15_reply_35 : decode cX15_reply 35 = .ok (.getfield 21, 3) := by decide +kernel
theorem dX15_reply_38 : decode cX15_reply 38 = .ok (.iload_n 1, 1) := by decide +kernel
theorem dX15_reply_39 : decode cX15_reply 39 = .ok (.aaload, 1) := by decide +kernel
theorem dX15_reply_40 : decode cX15_reply 40 = .ok (.getfield 262, 3) := by decide +kernel
theorem dX15_reply_43 : decode cX15_reply 43 = .ok (.iconst 1, 1) := by decide +kernel
theorem dX15_reply_44 : decode cX15_reply 44 = .ok (.isub, 1) := by decide +kernel
theorem dX15_reply_45 : decode cX15_reply 45 = .ok (.invokestatic 135, 3) := by decide +kernel
theorem dX15_reply_48 : decode cX15_reply 48 = .ok (.ifCond .eq 17, 3) := by decide +kernel
theorem dX15_reply_51 : decode cX15_reply 51 = .ok (.aload_n 0, 1) := by decide +kernel
theorem dX15_reply_52 : decode cX15_reply 52 = .ok (.getfield 21, 3) := by decide +kernel
theorem dX15_reply_55 : decode cX15_reply 55 = .ok (.iload_n 1, 1) := by decide +kernel
theorem dX15_reply_56 : decode cX15_reply 56 = .ok (.aaload, 1) := by decide +kernel
theorem dX15_reply_57 : decode cX15_reply 57 = .ok (.getfield 265, 3) := by decide +kernel
theorem dX15_reply_60 : decode cX15_reply 60 = .ok (.iload_n 2, 1) := by decide +kernel
theorem dX15_reply_61 : decode cX15_reply 61 = .ok (.iaload, 1) := by decide +kernel
theorem dX15_reply_62 : decode cX15_reply 62 = .ok (.goto 4, 3) := by decide +kernel
theorem dX15_reply_65 : decode cX15_reply 65 = .ok (.iconst (-1), 1) := by decide +kernel
theorem dX15_reply_66 : decode cX15_reply 66 = .ok (.ireturn, 1) := by decide +kernel
theorem dX15_connection_0 : decode cX15_connection 0 = .ok (.aload_n 0, 1) := by decide +kernel
theorem dX15_connection_1 : decode cX15_connection 1 = .ok (.iconst 0, 1) := by decide +kernel
theorem dX15_connection_2 : decode cX15_connection 2 = .ok (.putfield 93, 3) := by decide +kernel
theorem dX15_connection_5 : decode cX15_connection 5 = .ok (.aload_n 0, 1) := by decide +kernel
theorem dX15_connection_6 : decode cX15_connection 6 = .ok (.iload_n 1, 1) := by decide +kernel
theorem dX15_connection_7 : decode cX15_connection 7 = .ok (.invokevirtual 145, 3) := by decide +kernel
theorem dX15_connection_10 : decode cX15_connection 10 = .ok (.ifCond .ne 5, 3) := by decide +kernel
theorem dX15_connection_13 : decode cX15_connection 13 = .ok (.iconst (-1), 1) := by decide +kernel
theorem dX15_connection_14 : decode cX15_connection 14 = .ok (.ireturn, 1) := by decide +kernel
theorem dX15_connection_15 : decode cX15_connection 15 = .ok (.aload_n 0, 1) := by decide +kernel
theorem dX15_connection_16 : decode cX15_connection 16 = .ok (.getfield 21, 3) := by decide +kernel
theorem dX15_connection_19 : decode cX15_connection 19 = .ok (.iload_n 1, 1) := by decide +kernel
theorem dX15_connection_20 : decode cX15_connection 20 = .ok (.aaload, 1) := by decide +kernel
theorem dX15_connection_21 : decode cX15_connection 21 = .ok (.astore_n 3, 1) := by decide +kernel
theorem dX15_connection_22 : decode cX15_connection 22 = .ok (.iload_n 2, 1) := by decide +kernel
theorem dX15_connection_23 : decode cX15_connection 23 = .ok (.tableswitch 201 0 11 #[61, 66, 82, 98, 114, 131, 148, 173, 181, 186, 191, 196], 61) := by decide +kernel
theorem dX15_connection_84 : decode cX15_connection 84 = .ok (.aload_n 3, 1) := by decide +kernel
theorem dX15_connection_85 : decode cX15_connection 85 = .ok (.getfield 210, 3) := by decide +kernel
theorem dX15_connection_88 : decode cX15_connection 88 = .ok (.ireturn, 1) := by decide +kernel
theorem dX15_connection_89 : decode cX15_connection 89 = .ok (.aload_n 3, 1) := by decide +kernel
theorem dX15_connection_90 : decode cX15_connection 90 = .ok (.getfield 210, 3) := by decide +kernel
theorem dX15_connection_93 : decode cX15_connection 93 = .ok (.ifCond .ne 7, 3) := by decide +kernel
theorem dX15_connection_96 : decode cX15_connection 96 = .ok (.iconst (-1), 1) := by decide +kernel
theorem dX15_connection_97 : decode cX15_connection 97 = .ok (.goto 7, 3) := by decide +kernel
theorem dX15_connection_100 : decode cX15_connection 100 = .ok (.aload_n 3, 1) := by decide +kernel
theorem dX15_connection_101 : decode cX15_connection 101 = .ok (.getfield 203, 3) := by decide +kernel
theorem dX15_connection_104 : decode cX15_connection 104 = .ok (.ireturn, 1) := by decide +kernel
theorem dX15_connection_105 : decode cX15_connection 105 = .ok (.aload_n 3, 1) := by decide +kernel
theorem dX15_connection_106 : decode cX15_connection 106 = .ok (.getfield 210, 3) := by decide +kernel
theorem dX15_connection_109 : decode cX15_connection 109 = .ok (.ifCond .ne 7, 3) := by decide +kernel
theorem dX15_connection_112 : decode cX15_connection 112 = .ok (.iconst 0, 1) := by decide +kernel
theorem dX15_connection_113 : decode cX15_connection 113 = .ok (.goto 7, 3) := by decide +kernel
theorem dX15_connection_116 : decode cX15_connection 116 = .ok (.aload_n 3, 1) := by decide +kernel
theorem dX15_connection_117 : decode cX15_connection 117 = .ok (.getfield 216, 3) := by decide +kernel
theorem dX15_connection_120 : decode cX15_connection 120 = .ok (.ireturn, 1) := by decide +kernel
theorem dX15_connection_121 : decode cX15_connection 121 = .ok (.aload_n 3, 1) := by decide +kernel
theorem dX15_connection_122 : decode cX15_connection 122 = .ok (.getfield 210, 3) := by decide +kernel
theorem dX15_connection_125 : decode cX15_connection 125 = .ok (.ifCond .ne 7, 3) := by decide +kernel
theorem dX15_connection_128 : decode cX15_connection 128 = .ok (.iconst 0, 1) := by decide +kernel
theorem dX15_connection_129 : decode cX15_connection 129 = .ok (.goto 7, 3) := by decide +kernel
theorem dX15_connection_132 : decode cX15_connection 132 = .ok (.aload_n 3, 1) := by decide +kernel
theorem dX15_connection_133 : decode cX15_connection 133 = .ok (.getfield 246, 3) := by decide +kernel
theorem dX15_connection_136 : decode cX15_connection 136 = .ok (.ireturn, 1) := by decide +kernel
theorem dX15_connection_137 : decode cX15_connection 137 = .ok (.aload_n 3, 1) := by decide +kernel
theorem dX15_connection_138 : decode cX15_connection 138 = .ok (.getfield 210, 3) := by decide +kernel
theorem dX15_connection_141 : decode cX15_connection 141 = .ok (.iconst 2, 1) := by decide +kernel
theorem dX15_connection_142 : decode cX15_connection 142 = .ok (.if_icmp .ne 10, 3) := by decide +kernel
theorem dX15_connection_145 : decode cX15_connection 145 = .ok (.aload_n 3, 1) := by decide +kernel
theorem dX15_connection_146 : decode cX15_connection 146 = .ok (.getfield 222, 3) := by decide +kernel
theorem dX15_connection_149 : decode cX15_connection 149 = .ok (.goto 4, 3) := by decide +kernel
theorem dX15_connection_152 : decode cX15_connection 152 = .ok (.iconst 0, 1) := by decide +kernel
theorem dX15_connection_153 : decode cX15_connection 153 = .ok (.ireturn, 1) := by decide +kernel
theorem dX15_connection_154 : decode cX15_connection 154 = .ok (.aload_n 3, 1) := by decide +kernel
theorem dX15_connection_155 : decode cX15_connection 155 = .ok (.getfield 210, 3) := by decide +kernel
theorem dX15_connection_158 : decode cX15_connection 158 = .ok (.iconst 2, 1) := by decide +kernel
theorem dX15_connection_159 : decode cX15_connection 159 = .ok (.if_icmp .ne 10, 3) := by decide +kernel
theorem dX15_connection_162 : decode cX15_connection 162 = .ok (.aload_n 3, 1) := by decide +kernel
theorem dX15_connection_163 : decode cX15_connection 163 = .ok (.getfield 225, 3) := by decide +kernel
theorem dX15_connection_166 : decode cX15_connection 166 = .ok (.goto 4, 3) := by decide +kernel
theorem dX15_connection_169 : decode cX15_connection 169 = .ok (.iconst 0, 1) := by decide +kernel
theorem dX15_connection_170 : decode cX15_connection 170 = .ok (.ireturn, 1) := by decide +kernel
theorem dX15_connection_171 : decode cX15_connection 171 = .ok (.aload_n 3, 1) := by decide +kernel
theorem dX15_connection_172 : decode cX15_connection 172 = .ok (.getfield 210, 3) := by decide +kernel
theorem dX15_connection_175 : decode cX15_connection 175 = .ok (.iconst 1, 1) := by decide +kernel
theorem dX15_connection_176 : decode cX15_connection 176 = .ok (.if_icmp .eq 11, 3) := by decide +kernel
theorem dX15_connection_179 : decode cX15_connection 179 = .ok (.aload_n 3, 1) := by decide +kernel
theorem dX15_connection_180 : decode cX15_connection 180 = .ok (.getfield 210, 3) := by decide +kernel
theorem dX15_connection_183 : decode cX15_connection 183 = .ok (.iconst 2, 1) := by decide +kernel
theorem dX15_connection_184 : decode cX15_connection 184 = .ok (.if_icmp .ne 10, 3) := by decide +kernel
theorem dX15_connection_187 : decode cX15_connection 187 = .ok (.aload_n 3, 1) := by decide +kernel
theorem dX15_connection_188 : decode cX15_connection 188 = .ok (.getfield 228, 3) := by decide +kernel
theorem dX15_connection_191 : decode cX15_connection 191 = .ok (.goto 4, 3) := by decide +kernel
theorem dX15_connection_194 : decode cX15_connection 194 = .ok (.iconst 0, 1) := by decide +kernel
theorem dX15_connection_195 : decode cX15_connection 195 = .ok (.ireturn, 1) := by decide +kernel
theorem dX15_connection_196 : decode cX15_connection 196 = .ok (.aload_n 3, 1) := by decide +kernel
theorem dX15_connection_197 : decode cX15_connection 197 = .ok (.getfield 155, 3) := by decide +kernel
theorem dX15_connection_200 : decode cX15_connection 200 = .ok (.getfield 96, 3) := by decide +kernel
theorem dX15_connection_203 : decode cX15_connection 203 = .ok (.ireturn, 1) := by decide +kernel
theorem dX15_connection_204 : decode cX15_connection 204 = .ok (.aload_n 3, 1) := by decide +kernel
theorem dX15_connection_205 : decode cX15_connection 205 = .ok (.getfield 152, 3) := by decide +kernel
theorem dX15_connection_208 : decode cX15_connection 208 = .ok (.ireturn, 1) := by decide +kernel
theorem dX15_connection_209 : decode cX15_connection 209 = .ok (.aload_n 3, 1) := by decide +kernel
theorem dX15_connection_210 : decode cX15_connection 210 = .ok (.getfield 317, 3) := by decide +kernel
theorem dX15_connection_213 : decode cX15_connection 213 = .ok (.ireturn, 1) := by decide +kernel
theorem dX15_connection_214 : decode cX15_connection 214 = .ok (.aload_n 3, 1) := by decide +kernel
theorem dX15_connection_215 : decode cX15_connection 215 = .ok (.getfield 149, 3) := by decide +kernel
theorem dX15_connection_218 : decode cX15_connection 218 = .ok (.ireturn, 1) := by decide +kernel
theorem dX15_connection_219 : decode cX15_connection 219 = .ok (.aload_n 3, 1) := by decide +kernel
theorem dX15_connection_220 : decode cX15_connection 220 = .ok (.getfield 180, 3) := by decide +kernel
theorem dX15_connection_223 : decode cX15_connection 223 = .ok (.ireturn, 1) := by decide +kernel
theorem dX15_connection_224 : decode cX15_connection 224 = .ok (.iconst (-1), 1) := by decide +kernel
theorem dX15_connection_225 : decode cX15_connection 225 = .ok (.ireturn, 1) := by decide +kernel
theorem dX15_busy_0 : decode cX15_busy 0 = .ok (.aload_n 0, 1) := by decide +kernel
theorem dX15_busy_1 : decode cX15_busy 1 = .ok (.iconst 0, 1) := by decide +kernel
theorem dX15_busy_2 : decode cX15_busy 2 = .ok (.putfield 93, 3) := by decide +kernel
theorem dX15_busy_5 : decode cX15_busy 5 = .ok (.aload_n 0, 1) := by decide +kernel
theorem dX15_busy_6 : decode cX15_busy 6 = .ok (.iload_n 1, 1) := by decide +kernel
theorem dX15_busy_7 : decode cX15_busy 7 = .ok (.invokevirtual 145, 3) := by decide +kernel
theorem dX15_busy_10 : decode cX15_busy 10 = .ok (.ifCond .eq 13, 3) := by decide +kernel
theorem dX15_busy_13 : decode cX15_busy 13 = .ok (.iload_n 2, 1) := by decide +kernel
theorem dX15_busy_14 : decode cX15_busy 14 = .ok (.iconst 0, 1) := by decide +kernel
theorem dX15_busy_15 : decode cX15_busy 15 = .ok (.bipush 20, 2) := by decide +kernel
theorem dX15_busy_17 : decode cX15_busy 17 = .ok (.invokestatic 135, 3) := by decide +kernel
theorem dX15_busy_20 : decode cX15_busy 20 = .ok (.ifCond .ne 5, 3) := by decide +kernel
theorem dX15_busy_23 : decode cX15_busy 23 = .ok (.iconst 0, 1) := by decide +kernel
theorem dX15_busy_24 : decode cX15_busy 24 = .ok (.ireturn, 1) := by decide +kernel
theorem dX15_busy_25 : decode cX15_busy 25 = .ok (.aload_n 0, 1) := by decide +kernel
theorem dX15_busy_26 : decode cX15_busy 26 = .ok (.getfield 21, 3) := by decide +kernel
theorem dX15_busy_29 : decode cX15_busy 29 = .ok (.iload_n 1, 1) := by decide +kernel
theorem dX15_busy_30 : decode cX15_busy 30 = .ok (.aaload, 1) := by decide +kernel
theorem dX15_busy_31 : decode cX15_busy 31 = .ok (.iload_n 2, 1) := by decide +kernel
theorem dX15_busy_32 : decode cX15_busy 32 = .ok (.putfield 317, 3) := by decide +kernel
theorem dX15_busy_35 : decode cX15_busy 35 = .ok (.iconst 1, 1) := by decide +kernel
theorem dX15_busy_36 : decode cX15_busy 36 = .ok (.ireturn, 1) := by decide +kernel
theorem dX15_feed_0 : decode cX15_feed 0 = .ok (.aload_n 0, 1) := by decide +kernel
theorem dX15_feed_1 : decode cX15_feed 1 = .ok (.iconst 0, 1) := by decide +kernel
theorem dX15_feed_2 : decode cX15_feed 2 = .ok (.putfield 93, 3) := by decide +kernel
theorem dX15_feed_5 : decode cX15_feed 5 = .ok (.aload_n 0, 1) := by decide +kernel
theorem dX15_feed_6 : decode cX15_feed 6 = .ok (.getfield 433, 3) := by decide +kernel
theorem dX15_feed_9 : decode cX15_feed 9 = .ok (.bipush 20, 2) := by decide +kernel
theorem dX15_feed_11 : decode cX15_feed 11 = .ok (.iadd, 1) := by decide +kernel
theorem dX15_feed_12 : decode cX15_feed 12 = .ok (.bipush 60, 2) := by decide +kernel
theorem dX15_feed_14 : decode cX15_feed 14 = .ok (.if_icmp .le 5, 3) := by decide +kernel
theorem dX15_feed_17 : decode cX15_feed 17 = .ok (.iconst (-1), 1) := by decide +kernel
theorem dX15_feed_18 : decode cX15_feed 18 = .ok (.ireturn, 1) := by decide +kernel
theorem dX15_feed_19 : decode cX15_feed 19 = .ok (.iconst 0, 1) := by decide +kernel
theorem dX15_feed_20 : decode cX15_feed 20 = .ok (.istore 6, 2) := by decide +kernel
theorem dX15_feed_22 : decode cX15_feed 22 = .ok (.iload 6, 2) := by decide +kernel
theorem dX15_feed_24 : decode cX15_feed 24 = .ok (.bipush 20, 2) := by decide +kernel
theorem dX15_feed_26 : decode cX15_feed 26 = .ok (.if_icmp .ge 93, 3) := by decide +kernel
theorem dX15_feed_29 : decode cX15_feed 29 = .ok (.iload 6, 2) := by decide +kernel
theorem dX15_feed_31 : decode cX15_feed 31 = .ok (.iconst 4, 1) := by decide +kernel
theorem dX15_feed_32 : decode cX15_feed 32 = .ok (.if_icmp .ge 7, 3) := by decide +kernel
theorem dX15_feed_35 : decode cX15_feed 35 = .ok (.iload_n 1, 1) := by decide +kernel
theorem dX15_feed_36 : decode cX15_feed 36 = .ok (.goto 39, 3) := by decide +kernel
theorem dX15_feed_39 : decode cX15_feed 39 = .ok (.iload 6, 2) := by decide +kernel
theorem dX15_feed_41 : decode cX15_feed 41 = .ok (.bipush 8, 2) := by decide +kernel
theorem dX15_feed_43 : decode cX15_feed 43 = .ok (.if_icmp .ge 7, 3) := by decide +kernel
theorem dX15_feed_46 : decode cX15_feed 46 = .ok (.iload_n 2, 1) := by decide +kernel
theorem dX15_feed_47 : decode cX15_feed 47 = .ok (.goto 28, 3) := by decide +kernel
theorem dX15_feed_50 : decode cX15_feed 50 = .ok (.iload 6, 2) := by decide +kernel
theorem dX15_feed_52 : decode cX15_feed 52 = .ok (.bipush 12, 2) := by decide +kernel
theorem dX15_feed_54 : decode cX15_feed 54 = .ok (.if_icmp .ge 7, 3) := by decide +kernel
theorem dX15_feed_57 : decode cX15_feed 57 = .ok (.iload_n 3, 1) := by decide +kernel
theorem dX15_feed_58 : decode cX15_feed 58 = .ok (.goto 17, 3) := by decide +kernel
theorem dX15_feed_61 : decode cX15_feed 61 = .ok (.iload 6, 2) := by decide +kernel
theorem dX15_feed_63 : decode cX15_feed 63 = .ok (.bipush 16, 2) := by decide +kernel
theorem dX15_feed_65 : decode cX15_feed 65 = .ok (.if_icmp .ge 8, 3) := by decide +kernel
theorem dX15_feed_68 : decode cX15_feed 68 = .ok (.iload 4, 2) := by decide +kernel
theorem dX15_feed_70 : decode cX15_feed 70 = .ok (.goto 5, 3) := by decide +kernel
theorem dX15_feed_73 : decode cX15_feed 73 = .ok (.iload 5, 2) := by decide +kernel
theorem dX15_feed_75 : decode cX15_feed 75 = .ok (.istore 7, 2) := by decide +kernel
theorem dX15_feed_77 : decode cX15_feed 77 = .ok (.aload_n 0, 1) := by decide +kernel
theorem dX15_feed_78 : decode cX15_feed 78 = .ok (.getfield 87, 3) := by decide +kernel
theorem dX15_feed_81 : decode cX15_feed 81 = .ok (.aload_n 0, 1) := by decide +kernel
theorem dX15_feed_82 : decode cX15_feed 82 = .ok (.getfield 433, 3) := by decide +kernel
theorem dX15_feed_85 : decode cX15_feed 85 = .ok (.iload 7, 2) := by decide +kernel
theorem dX15_feed_87 : decode cX15_feed 87 = .ok (.bipush 24, 2) := by decide +kernel
theorem dX15_feed_89 : decode cX15_feed 89 = .ok (.bipush 8, 2) := by decide +kernel
theorem dX15_feed_91 : decode cX15_feed 91 = .ok (.iload 6, 2) := by decide +kernel
theorem dX15_feed_93 : decode cX15_feed 93 = .ok (.iconst 4, 1) := by decide +kernel
theorem dX15_feed_94 : decode cX15_feed 94 = .ok (.irem, 1) := by decide +kernel
theorem dX15_feed_95 : decode cX15_feed 95 = .ok (.imul, 1) := by decide +kernel
theorem dX15_feed_96 : decode cX15_feed 96 = .ok (.isub, 1) := by decide +kernel
theorem dX15_feed_97 : decode cX15_feed 97 = .ok (.ishr, 1) := by decide +kernel
theorem dX15_feed_98 : decode cX15_feed 98 = .ok (.sipush 255, 3) := by decide +kernel
theorem dX15_feed_101 : decode cX15_feed 101 = .ok (.iand, 1) := by decide +kernel
theorem dX15_feed_102 : decode cX15_feed 102 = .ok (.iastore, 1) := by decide +kernel
theorem dX15_feed_103 : decode cX15_feed 103 = .ok (.aload_n 0, 1) := by decide +kernel
theorem dX15_feed_104 : decode cX15_feed 104 = .ok (.dup, 1) := by decide +kernel
theorem dX15_feed_105 : decode cX15_feed 105 = .ok (.getfield 433, 3) := by decide +kernel
theorem dX15_feed_108 : decode cX15_feed 108 = .ok (.iconst 1, 1) := by decide +kernel
theorem dX15_feed_109 : decode cX15_feed 109 = .ok (.iadd, 1) := by decide +kernel
theorem dX15_feed_110 : decode cX15_feed 110 = .ok (.putfield 433, 3) := by decide +kernel
theorem dX15_feed_113 : decode cX15_feed 113 = .ok (.iinc 6 1, 3) := by decide +kernel
theorem dX15_feed_116 : decode cX15_feed 116 = .ok (.goto (-94), 3) := by decide +kernel
theorem dX15_feed_119 : decode cX15_feed 119 = .ok (.aload_n 0, 1) := by decide +kernel
theorem dX15_feed_120 : decode cX15_feed 120 = .ok (.getfield 433, 3) := by decide +kernel
theorem dX15_feed_123 : decode cX15_feed 123 = .ok (.ireturn, 1) := by decide +kernel
theorem dX15_end_0 : decode cX15_end 0 = .ok (.aload_n 0, 1) := by decide +kernel
theorem dX15_end_1 : decode cX15_end 1 = .ok (.iconst 0, 1) := by decide +kernel
theorem dX15_end_2 : decode cX15_end 2 = .ok (.putfield 93, 3) := by decide +kernel
theorem dX15_end_5 : decode cX15_end 5 = .ok (.iload_n 1, 1) := by decide +kernel
theorem dX15_end_6 : decode cX15_end 6 = .ok (.iconst 0, 1) := by decide +kernel
theorem dX15_end_7 : decode cX15_end 7 = .ok (.aload_n 0, 1) := by decide +kernel
theorem dX15_end_8 : decode cX15_end 8 = .ok (.getfield 433, 3) := by decide +kernel
theorem dX15_end_11 : decode cX15_end 11 = .ok (.invokestatic 135, 3) := by decide +kernel
theorem dX15_end_14 : decode cX15_end 14 = .ok (.ifCond .ne 5, 3) := by decide +kernel
theorem dX15_end_17 : decode cX15_end 17 = .ok (.iconst (-1), 1) := by decide +kernel
theorem dX15_end_18 : decode cX15_end 18 = .ok (.ireturn, 1) := by decide +kernel
theorem dX15_end_19 : decode cX15_end 19 = .ok (.aload_n 0, 1) := by decide +kernel
theorem dX15_end_20 : decode cX15_end 20 = .ok (.iload_n 1, 1) := by decide +kernel
theorem dX15_end_21 : decode cX15_end 21 = .ok (.putfield 433, 3) := by decide +kernel
theorem dX15_end_24 : decode cX15_end 24 = .ok (.iload_n 1, 1) := by decide +kernel
theorem dX15_end_25 : decode cX15_end 25 = .ok (.ireturn, 1) := by decide +kernel
theorem dX15_raw_0 : decode cX15_raw 0 = .ok (.aload_n 0, 1) := by decide +kernel
theorem dX15_raw_1 : decode cX15_raw 1 = .ok (.iconst 0, 1) := by decide +kernel
theorem dX15_raw_2 : decode cX15_raw 2 = .ok (.putfield 93, 3) := by decide +kernel
theorem dX15_raw_5 : decode cX15_raw 5 = .ok (.aload_n 0, 1) := by decide +kernel
theorem dX15_raw_6 : decode cX15_raw 6 = .ok (.iload_n 1, 1) := by decide +kernel
theorem dX15_raw_7 : decode cX15_raw 7 = .ok (.invokevirtual 399, 3) := by decide +kernel
theorem dX15_raw_10 : decode cX15_raw 10 = .ok (.ifCond .eq 17, 3) := by decide +kernel
theorem dX15_raw_13 : decode cX15_raw 13 = .ok (.aload_n 0, 1) := by decide +kernel
theorem dX15_raw_14 : decode cX15_raw 14 = .ok (.getfield 433, 3) := by decide +kernel
theorem dX15_raw_17 : decode cX15_raw 17 = .ok (.bipush 8, 2) := by decide +kernel
theorem dX15_raw_19 : decode cX15_raw 19 = .ok (.bipush 23, 2) := by decide +kernel
theorem dX15_raw_21 : decode cX15_raw 21 = .ok (.invokestatic 135, 3) := by decide +kernel
theorem dX15_raw_24 : decode cX15_raw 24 = .ok (.ifCond .ne 5, 3) := by decide +kernel
theorem dX15_raw_27 : decode cX15_raw 27 = .ok (.iconst (-1), 1) := by decide +kernel
theorem dX15_raw_28 : decode cX15_raw 28 = .ok (.ireturn, 1) := by decide +kernel
theorem dX15_raw_29 : decode cX15_raw 29 = .ok (.aload_n 0, 1) := by decide +kernel
theorem dX15_raw_30 : decode cX15_raw 30 = .ok (.getfield 15, 3) := by decide +kernel
theorem dX15_raw_33 : decode cX15_raw 33 = .ok (.iload_n 1, 1) := by decide +kernel
theorem dX15_raw_34 : decode cX15_raw 34 = .ok (.aaload, 1) := by decide +kernel
theorem dX15_raw_35 : decode cX15_raw 35 = .ok (.getfield 96, 3) := by decide +kernel
theorem dX15_raw_38 : decode cX15_raw 38 = .ok (.bipush 8, 2) := by decide +kernel
theorem dX15_raw_40 : decode cX15_raw 40 = .ok (.if_icmp .ne 6, 3) := by decide +kernel
theorem dX15_raw_43 : decode cX15_raw 43 = .ok (.bipush (-2), 2) := by decide +kernel
theorem dX15_raw_45 : decode cX15_raw 45 = .ok (.ireturn, 1) := by decide +kernel
theorem dX15_raw_46 : decode cX15_raw 46 = .ok (.aload_n 0, 1) := by decide +kernel
theorem dX15_raw_47 : decode cX15_raw 47 = .ok (.aload_n 0, 1) := by decide +kernel
theorem dX15_raw_48 : decode cX15_raw 48 = .ok (.getfield 15, 3) := by decide +kernel
theorem dX15_raw_51 : decode cX15_raw 51 = .ok (.iload_n 1, 1) := by decide +kernel
theorem dX15_raw_52 : decode cX15_raw 52 = .ok (.aaload, 1) := by decide +kernel
theorem dX15_raw_53 : decode cX15_raw 53 = .ok (.aload_n 0, 1) := by decide +kernel
theorem dX15_raw_54 : decode cX15_raw 54 = .ok (.getfield 87, 3) := by decide +kernel
theorem dX15_raw_57 : decode cX15_raw 57 = .ok (.aload_n 0, 1) := by decide +kernel
theorem dX15_raw_58 : decode cX15_raw 58 = .ok (.getfield 433, 3) := by decide +kernel
theorem dX15_raw_61 : decode cX15_raw 61 = .ok (.invokevirtual 159, 3) := by decide +kernel
theorem dX15_raw_64 : decode cX15_raw 64 = .ok (.istore_n 2, 1) := by decide +kernel
theorem dX15_raw_65 : decode cX15_raw 65 = .ok (.aload_n 0, 1) := by decide +kernel
theorem dX15_raw_66 : decode cX15_raw 66 = .ok (.iconst 0, 1) := by decide +kernel
theorem dX15_raw_67 : decode cX15_raw 67 = .ok (.putfield 433, 3) := by decide +kernel
theorem dX15_raw_70 : decode cX15_raw 70 = .ok (.aload_n 0, 1) := by decide +kernel
theorem dX15_raw_71 : decode cX15_raw 71 = .ok (.getfield 15, 3) := by decide +kernel
theorem dX15_raw_74 : decode cX15_raw 74 = .ok (.iload_n 1, 1) := by decide +kernel
theorem dX15_raw_75 : decode cX15_raw 75 = .ok (.aaload, 1) := by decide +kernel
theorem dX15_raw_76 : decode cX15_raw 76 = .ok (.getfield 96, 3) := by decide +kernel
theorem dX15_raw_79 : decode cX15_raw 79 = .ok (.ireturn, 1) := by decide +kernel
theorem dX15_harm_0 : decode cX15_harm 0 = .ok (.aload_n 0, 1) := by decide +kernel
theorem dX15_harm_1 : decode cX15_harm 1 = .ok (.iconst 0, 1) := by decide +kernel
theorem dX15_harm_2 : decode cX15_harm 2 = .ok (.putfield 93, 3) := by decide +kernel
theorem dX15_harm_5 : decode cX15_harm 5 = .ok (.iload_n 1, 1) := by decide +kernel
theorem dX15_harm_6 : decode cX15_harm 6 = .ok (.iconst 0, 1) := by decide +kernel
theorem dX15_harm_7 : decode cX15_harm 7 = .ok (.sipush 500, 3) := by decide +kernel
theorem dX15_harm_10 : decode cX15_harm 10 = .ok (.invokestatic 135, 3) := by decide +kernel
theorem dX15_harm_13 : decode cX15_harm 13 = .ok (.ifCond .eq 24, 3) := by decide +kernel
theorem dX15_harm_16 : decode cX15_harm 16 = .ok (.iload_n 2, 1) := by decide +kernel
theorem dX15_harm_17 : decode cX15_harm 17 = .ok (.iconst 0, 1) := by decide +kernel
theorem dX15_harm_18 : decode cX15_harm 18 = .ok (.bipush 22, 2) := by decide +kernel
theorem dX15_harm_20 : decode cX15_harm 20 = .ok (.invokestatic 135, 3) := by decide +kernel
theorem dX15_harm_23 : decode cX15_harm 23 = .ok (.ifCond .eq 14, 3) := by decide +kernel
theorem dX15_harm_26 : decode cX15_harm 26 = .ok (.iload_n 3, 1) := by decide +kernel
theorem dX15_harm_27 : decode cX15_harm 27 = .ok (.iconst 1, 1) := by decide +kernel
theorem dX15_harm_28 : decode cX15_harm 28 = .ok (.sipush 255, 3) := by decide +kernel
theorem dX15_harm_31 : decode cX15_harm 31 = .ok (.invokestatic 135, 3) := by decide +kernel
theorem dX15_harm_34 : decode cX15_harm 34 = .ok (.ifCond .ne 5, 3) := by decide +kernel
theorem dX15_harm_37 : decode cX15_harm 37 = .ok (.iconst 0, 1) := by decide +kernel
theorem dX15_harm_38 : decode cX15_harm 38 = .ok (.ireturn, 1) := by decide +kernel
theorem dX15_harm_39 : decode cX15_harm 39 = .ok (.iconst 0, 1) := by decide +kernel
theorem dX15_harm_40 : decode cX15_harm 40 = .ok (.istore 4, 2) := by decide +kernel
theorem dX15_harm_42 : decode cX15_harm 42 = .ok (.iload 4, 2) := by decide +kernel
theorem dX15_harm_44 : decode cX15_harm 44 = .ok (.aload_n 0, 1) := by decide +kernel
theorem dX15_harm_45 : decode cX15_harm 45 = .ok (.getfield 295, 3) := by decide +kernel
theorem dX15_harm_48 : decode cX15_harm 48 = .ok (.if_icmp .ge 36, 3) := by decide +kernel
theorem dX15_harm_51 : decode cX15_harm 51 = .ok (.aload_n 0, 1) := by decide +kernel
theorem dX15_harm_52 : decode cX15_harm 52 = .ok (.getfield 50, 3) := by decide +kernel
theorem dX15_harm_55 : decode cX15_harm 55 = .ok (.iload 4, 2) := by decide +kernel
theorem dX15_harm_57 : decode cX15_harm 57 = .ok (.iaload, 1) := by decide +kernel
theorem dX15_harm_58 : decode cX15_harm 58 = .ok (.aload_n 0, 1) := by decide +kernel
theorem dX15_harm_59 : decode cX15_harm 59 = .ok (.getfield 298, 3) := by decide +kernel
theorem dX15_harm_62 : decode cX15_harm 62 = .ok (.iload_n 1, 1) := by decide +kernel
theorem dX15_harm_63 : decode cX15_harm 63 = .ok (.iadd, 1) := by decide +kernel
theorem dX15_harm_64 : decode cX15_harm 64 = .ok (.if_icmp .ne 14, 3) := by decide +kernel
theorem dX15_harm_67 : decode cX15_harm 67 = .ok (.aload_n 0, 1) := by decide +kernel
theorem dX15_harm_68 : decode cX15_harm 68 = .ok (.getfield 53, 3) := by decide +kernel
theorem dX15_harm_71 : decode cX15_harm 71 = .ok (.iload 4, 2) := by decide +kernel
theorem dX15_harm_73 : decode cX15_harm 73 = .ok (.iaload, 1) := by decide +kernel
theorem dX15_harm_74 : decode cX15_harm 74 = .ok (.iload_n 2, 1) := by decide +kernel
theorem dX15_harm_75 : decode cX15_harm 75 = .ok (.if_icmp .eq 9, 3) := by decide +kernel
theorem dX15_harm_78 : decode cX15_harm 78 = .ok (.iinc 4 1, 3) := by decide +kernel
theorem dX15_harm_81 : decode cX15_harm 81 = .ok (.goto (-39), 3) := by decide +kernel
theorem dX15_harm_84 : decode cX15_harm 84 = .ok (.iload 4, 2) := by decide +kernel
theorem dX15_harm_86 : decode cX15_harm 86 = .ok (.bipush 64, 2) := by decide +kernel
theorem dX15_harm_88 : decode cX15_harm 88 = .ok (.if_icmp .ne 5, 3) := by decide +kernel
theorem dX15_harm_91 : decode cX15_harm 91 = .ok (.iconst 0, 1) := by decide +kernel
theorem dX15_harm_92 : decode cX15_harm 92 = .ok (.ireturn, 1) := by decide +kernel
theorem dX15_harm_93 : decode cX15_harm 93 = .ok (.iload 4, 2) := by decide +kernel
theorem dX15_harm_95 : decode cX15_harm 95 = .ok (.aload_n 0, 1) := by decide +kernel
theorem dX15_harm_96 : decode cX15_harm 96 = .ok (.getfield 295, 3) := by decide +kernel
theorem dX15_harm_99 : decode cX15_harm 99 = .ok (.if_icmp .ne 13, 3) := by decide +kernel
theorem dX15_harm_102 : decode cX15_harm 102 = .ok (.aload_n 0, 1) := by decide +kernel
theorem dX15_harm_103 : decode cX15_harm 103 = .ok (.dup, 1) := by decide +kernel
theorem dX15_harm_104 : decode cX15_harm 104 = .ok (.getfield 295, 3) := by decide +kernel
theorem dX15_harm_107 : decode cX15_harm 107 = .ok (.iconst 1, 1) := by decide +kernel
theorem dX15_harm_108 : decode cX15_harm 108 = .ok (.iadd, 1) := by decide +kernel
theorem dX15_harm_109 : decode cX15_harm 109 = .ok (.putfield 295, 3) := by decide +kernel
theorem dX15_harm_112 : decode cX15_harm 112 = .ok (.aload_n 0, 1) := by decide +kernel
theorem dX15_harm_113 : decode cX15_harm 113 = .ok (.getfield 50, 3) := by decide +kernel
theorem dX15_harm_116 : decode cX15_harm 116 = .ok (.iload 4, 2) := by decide +kernel
theorem dX15_harm_118 : decode cX15_harm 118 = .ok (.aload_n 0, 1) := by decide +kernel
theorem dX15_harm_119 : decode cX15_harm 119 = .ok (.getfield 298, 3) := by decide +kernel
theorem dX15_harm_122 : decode cX15_harm 122 = .ok (.iload_n 1, 1) := by decide +kernel
theorem dX15_harm_123 : decode cX15_harm 123 = .ok (.iadd, 1) := by decide +kernel
theorem dX15_harm_124 : decode cX15_harm 124 = .ok (.iastore, 1) := by decide +kernel
theorem dX15_harm_125 : decode cX15_harm 125 = .ok (.aload_n 0, 1) := by decide +kernel
theorem dX15_harm_126 : decode cX15_harm 126 = .ok (.getfield 53, 3) := by decide +kernel
theorem dX15_harm_129 : decode cX15_harm 129 = .ok (.iload 4, 2) := by decide +kernel
theorem dX15_harm_131 : decode cX15_harm 131 = .ok (.iload_n 2, 1) := by decide +kernel
theorem dX15_harm_132 : decode cX15_harm 132 = .ok (.iastore, 1) := by decide +kernel
theorem dX15_harm_133 : decode cX15_harm 133 = .ok (.aload_n 0, 1) := by decide +kernel
theorem dX15_harm_134 : decode cX15_harm 134 = .ok (.getfield 56, 3) := by decide +kernel
theorem dX15_harm_137 : decode cX15_harm 137 = .ok (.iload 4, 2) := by decide +kernel
theorem dX15_harm_139 : decode cX15_harm 139 = .ok (.iload_n 3, 1) := by decide +kernel
theorem dX15_harm_140 : decode cX15_harm 140 = .ok (.iastore, 1) := by decide +kernel
theorem dX15_harm_141 : decode cX15_harm 141 = .ok (.iconst 1, 1) := by decide +kernel
theorem dX15_harm_142 : decode cX15_harm 142 = .ok (.ireturn, 1) := by decide +kernel
theorem dX15_step_0 : decode cX15_step 0 = .ok (.aload_n 0, 1) := by decide +kernel
theorem dX15_step_1 : decode cX15_step 1 = .ok (.iload_n 1, 1) := by decide +kernel
theorem dX15_step_2 : decode cX15_step 2 = .ok (.iconst 1, 1) := by decide +kernel
theorem dX15_step_3 : decode cX15_step 3 = .ok (.sipush 200, 3) := by decide +kernel
theorem dX15_step_6 : decode cX15_step 6 = .ok (.invokestatic 135, 3) := by decide +kernel
theorem dX15_step_9 : decode cX15_step 9 = .ok (.ifCond .eq 7, 3) := by decide +kernel
theorem dX15_step_12 : decode cX15_step 12 = .ok (.iconst 0, 1) := by decide +kernel
theorem dX15_step_13 : decode cX15_step 13 = .ok (.goto 4, 3) := by decide +kernel
theorem dX15_step_16 : decode cX15_step 16 = .ok (.iconst 1, 1) := by decide +kernel
theorem dX15_step_17 : decode cX15_step 17 = .ok (.putfield 93, 3) := by decide +kernel
theorem dX15_step_20 : decode cX15_step 20 = .ok (.aload_n 0, 1) := by decide +kernel
theorem dX15_step_21 : decode cX15_step 21 = .ok (.getfield 93, 3) := by decide +kernel
theorem dX15_step_24 : decode cX15_step 24 = .ok (.ifCond .le 5, 3) := by decide +kernel
theorem dX15_step_27 : decode cX15_step 27 = .ok (.iconst 0, 1) := by decide +kernel
theorem dX15_step_28 : decode cX15_step 28 = .ok (.ireturn, 1) := by decide +kernel
theorem dX15_step_29 : decode cX15_step 29 = .ok (.aload_n 0, 1) := by decide +kernel
theorem dX15_step_30 : decode cX15_step 30 = .ok (.getfield 298, 3) := by decide +kernel
theorem dX15_step_33 : decode cX15_step 33 = .ok (.istore_n 2, 1) := by decide +kernel
theorem dX15_step_34 : decode cX15_step 34 = .ok (.iconst 0, 1) := by decide +kernel
theorem dX15_step_35 : decode cX15_step 35 = .ok (.istore_n 3, 1) := by decide +kernel
theorem dX15_step_36 : decode cX15_step 36 = .ok (.iload_n 3, 1) := by decide +kernel
theorem dX15_step_37 : decode cX15_step 37 = .ok (.iload_n 1, 1) := by decide +kernel
theorem dX15_step_38 : decode cX15_step 38 = .ok (.if_icmp .ge 72, 3) := by decide +kernel
theorem dX15_step_41 : decode cX15_step 41 = .ok (.aload_n 0, 1) := by decide +kernel
theorem dX15_step_42 : decode cX15_step 42 = .ok (.dup, 1) := by decide +kernel
theorem dX15_step_43 : decode cX15_step 43 = .ok (.getfield 112, 3) := by decide +kernel
theorem dX15_step_46 : decode cX15_step 46 = .ok (.iconst 1, 1) := by decide +kernel
theorem dX15_step_47 : decode cX15_step 47 = .ok (.iadd, 1) := by decide +kernel
theorem dX15_step_48 : decode cX15_step 48 = .ok (.putfield 112, 3) := by decide +kernel
theorem dX15_step_51 : decode cX15_step 51 = .ok (.iconst 0, 1) := by decide +kernel
theorem dX15_step_52 : decode cX15_step 52 = .ok (.istore 4, 2) := by decide +kernel
theorem dX15_step_54 : decode cX15_step 54 = .ok (.iload 4, 2) := by decide +kernel
theorem dX15_step_56 : decode cX15_step 56 = .ok (.aload_n 0, 1) := by decide +kernel
theorem dX15_step_57 : decode cX15_step 57 = .ok (.getfield 132, 3) := by decide +kernel
theorem dX15_step_60 : decode cX15_step 60 = .ok (.if_icmp .ge 15, 3) := by decide +kernel
theorem dX15_step_63 : decode cX15_step 63 = .ok (.aload_n 0, 1) := by decide +kernel
theorem dX15_step_64 : decode cX15_step 64 = .ok (.iload 4, 2) := by decide +kernel
theorem dX15_step_66 : decode cX15_step 66 = .ok (.invokevirtual 436, 3) := by decide +kernel
theorem dX15_step_69 : decode cX15_step 69 = .ok (.iinc 4 1, 3) := by decide +kernel
theorem dX15_step_72 : decode cX15_step 72 = .ok (.goto (-18), 3) := by decide +kernel
theorem dX15_step_75 : decode cX15_step 75 = .ok (.iconst 0, 1) := by decide +kernel
theorem dX15_step_76 : decode cX15_step 76 = .ok (.istore 4, 2) := by decide +kernel
theorem dX15_step_78 : decode cX15_step 78 = .ok (.iload 4, 2) := by decide +kernel
theorem dX15_step_80 : decode cX15_step 80 = .ok (.aload_n 0, 1) := by decide +kernel
theorem dX15_step_81 : decode cX15_step 81 = .ok (.getfield 139, 3) := by decide +kernel
theorem dX15_step_84 : decode cX15_step 84 = .ok (.if_icmp .ge 20, 3) := by decide +kernel
theorem dX15_step_87 : decode cX15_step 87 = .ok (.aload_n 0, 1) := by decide +kernel
theorem dX15_step_88 : decode cX15_step 88 = .ok (.aload_n 0, 1) := by decide +kernel
theorem dX15_step_89 : decode cX15_step 89 = .ok (.getfield 21, 3) := by decide +kernel
theorem dX15_step_92 : decode cX15_step 92 = .ok (.iload 4, 2) := by decide +kernel
theorem dX15_step_94 : decode cX15_step 94 = .ok (.aaload, 1) := by decide +kernel
theorem dX15_step_95 : decode cX15_step 95 = .ok (.invokevirtual 439, 3) := by decide +kernel
theorem dX15_step_98 : decode cX15_step 98 = .ok (.iinc 4 1, 3) := by decide +kernel
theorem dX15_step_101 : decode cX15_step 101 = .ok (.goto (-23), 3) := by decide +kernel
theorem dX15_step_104 : decode cX15_step 104 = .ok (.iinc 3 1, 3) := by decide +kernel
theorem dX15_step_107 : decode cX15_step 107 = .ok (.goto (-71), 3) := by decide +kernel
theorem dX15_step_110 : decode cX15_step 110 = .ok (.aload_n 0, 1) := by decide +kernel
theorem dX15_step_111 : decode cX15_step 111 = .ok (.getfield 298, 3) := by decide +kernel
theorem dX15_step_114 : decode cX15_step 114 = .ok (.iload_n 2, 1) := by decide +kernel
theorem dX15_step_115 : decode cX15_step 115 = .ok (.isub, 1) := by decide +kernel
theorem dX15_step_116 : decode cX15_step 116 = .ok (.ireturn, 1) := by decide +kernel
theorem dX15_sent_0 : decode cX15_sent 0 = .ok (.aload_n 0, 1) := by decide +kernel
theorem dX15_sent_1 : decode cX15_sent 1 = .ok (.aload_n 0, 1) := by decide +kernel
theorem dX15_sent_2 : decode cX15_sent 2 = .ok (.getfield 292, 3) := by decide +kernel
theorem dX15_sent_5 : decode cX15_sent 5 = .ok (.ifCond .le 26, 3) := by decide +kernel
theorem dX15_sent_8 : decode cX15_sent 8 = .ok (.iload_n 1, 1) := by decide +kernel
theorem dX15_sent_9 : decode cX15_sent 9 = .ok (.iconst (-1), 1) := by decide +kernel
theorem dX15_sent_10 : decode cX15_sent 10 = .ok (.if_icmp .eq 17, 3) := by decide +kernel
theorem dX15_sent_13 : decode cX15_sent 13 = .ok (.iload_n 1, 1) := by decide +kernel
theorem dX15_sent_14 : decode cX15_sent 14 = .ok (.iconst 0, 1) := by decide +kernel
theorem dX15_sent_15 : decode cX15_sent 15 = .ok (.aload_n 0, 1) := by decide +kernel
theorem dX15_sent_16 : decode cX15_sent 16 = .ok (.getfield 292, 3) := by decide +kernel
theorem dX15_sent_19 : decode cX15_sent 19 = .ok (.iconst 1, 1) := by decide +kernel
theorem dX15_sent_20 : decode cX15_sent 20 = .ok (.isub, 1) := by decide +kernel
theorem dX15_sent_21 : decode cX15_sent 21 = .ok (.invokestatic 135, 3) := by decide +kernel
theorem dX15_sent_24 : decode cX15_sent 24 = .ok (.ifCond .eq 7, 3) := by decide +kernel
theorem dX15_sent_27 : decode cX15_sent 27 = .ok (.iconst 0, 1) := by decide +kernel
theorem dX15_sent_28 : decode cX15_sent 28 = .ok (.goto 4, 3) := by decide +kernel
theorem dX15_sent_31 : decode cX15_sent 31 = .ok (.iconst 1, 1) := by decide +kernel
theorem dX15_sent_32 : decode cX15_sent 32 = .ok (.putfield 93, 3) := by decide +kernel
theorem dX15_sent_35 : decode cX15_sent 35 = .ok (.aload_n 0, 1) := by decide +kernel
theorem dX15_sent_36 : decode cX15_sent 36 = .ok (.getfield 93, 3) := by decide +kernel
theorem dX15_sent_39 : decode cX15_sent 39 = .ok (.ifCond .le 7, 3) := by decide +kernel
theorem dX15_sent_42 : decode cX15_sent 42 = .ok (.iconst 0, 1) := by decide +kernel
theorem dX15_sent_43 : decode cX15_sent 43 = .ok (.goto 21, 3) := by decide +kernel
theorem dX15_sent_46 : decode cX15_sent 46 = .ok (.iload_n 1, 1) := by decide +kernel
theorem dX15_sent_47 : decode cX15_sent 47 = .ok (.iconst (-1), 1) := by decide +kernel
theorem dX15_sent_48 : decode cX15_sent 48 = .ok (.if_icmp .ne 10, 3) := by decide +kernel
theorem dX15_sent_51 : decode cX15_sent 51 = .ok (.aload_n 0, 1) := by decide +kernel
theorem dX15_sent_52 : decode cX15_sent 52 = .ok (.getfield 292, 3) := by decide +kernel
theorem dX15_sent_55 : decode cX15_sent 55 = .ok (.goto 9, 3) := by decide +kernel
theorem dX15_sent_58 : decode cX15_sent 58 = .ok (.aload_n 0, 1) := by decide +kernel
theorem dX15_sent_59 : decode cX15_sent 59 = .ok (.getfield 47, 3) := by decide +kernel
theorem dX15_sent_62 : decode cX15_sent 62 = .ok (.iload_n 1, 1) := by decide +kernel
theorem dX15_sent_63 : decode cX15_sent 63 = .ok (.iaload, 1) := by decide +kernel
theorem dX15_sent_64 : decode cX15_sent 64 = .ok (.ireturn, 1) := by decide +kernel
theorem dX15_count_0 : decode cX15_count 0 = .ok (.aload_n 0, 1) := by decide +kernel
theorem dX15_count_1 : decode cX15_count 1 = .ok (.iconst 0, 1) := by decide +kernel
theorem dX15_count_2 : decode cX15_count 2 = .ok (.putfield 93, 3) := by decide +kernel
theorem dX15_count_5 : decode cX15_count 5 = .ok (.iconst 0, 1) := by decide +kernel
theorem dX15_count_6 : decode cX15_count 6 = .ok (.istore_n 2, 1) := by decide +kernel
theorem dX15_count_7 : decode cX15_count 7 = .ok (.iload_n 1, 1) := by decide +kernel
theorem dX15_count_8 : decode cX15_count 8 = .ok (.tableswitch 246 0 13 #[72, 77, 82, 87, 92, 97, 102, 107, 112, 117, 122, 127, 236, 241], 72) := by decide +kernel
theorem dX15_count_80 : decode cX15_count 80 = .ok (.aload_n 0, 1) := by decide +kernel
theorem dX15_count_81 : decode cX15_count 81 = .ok (.getfield 112, 3) := by decide +kernel
theorem dX15_count_84 : decode cX15_count 84 = .ok (.ireturn, 1) := by decide +kernel
theorem dX15_count_85 : decode cX15_count 85 = .ok (.aload_n 0, 1) := by decide +kernel
theorem dX15_count_86 : decode cX15_count 86 = .ok (.getfield 132, 3) := by decide +kernel
theorem dX15_count_89 : decode cX15_count 89 = .ok (.ireturn, 1) := by decide +kernel
theorem dX15_count_90 : decode cX15_count 90 = .ok (.aload_n 0, 1) := by decide +kernel
theorem dX15_count_91 : decode cX15_count 91 = .ok (.getfield 139, 3) := by decide +kernel
theorem dX15_count_94 : decode cX15_count 94 = .ok (.ireturn, 1) := by decide +kernel
theorem dX15_count_95 : decode cX15_count 95 = .ok (.aload_n 0, 1) := by decide +kernel
theorem dX15_count_96 : decode cX15_count 96 = .ok (.getfield 142, 3) := by decide +kernel
theorem dX15_count_99 : decode cX15_count 99 = .ok (.ireturn, 1) := by decide +kernel
theorem dX15_count_100 : decode cX15_count 100 = .ok (.aload_n 0, 1) := by decide +kernel
theorem dX15_count_101 : decode cX15_count 101 = .ok (.getfield 298, 3) := by decide +kernel
theorem dX15_count_104 : decode cX15_count 104 = .ok (.ireturn, 1) := by decide +kernel
theorem dX15_count_105 : decode cX15_count 105 = .ok (.aload_n 0, 1) := by decide +kernel
theorem dX15_count_106 : decode cX15_count 106 = .ok (.getfield 390, 3) := by decide +kernel
theorem dX15_count_109 : decode cX15_count 109 = .ok (.ireturn, 1) := by decide +kernel
theorem dX15_count_110 : decode cX15_count 110 = .ok (.aload_n 0, 1) := by decide +kernel
theorem dX15_count_111 : decode cX15_count 111 = .ok (.getfield 393, 3) := by decide +kernel
theorem dX15_count_114 : decode cX15_count 114 = .ok (.ireturn, 1) := by decide +kernel
theorem dX15_count_115 : decode cX15_count 115 = .ok (.aload_n 0, 1) := by decide +kernel
theorem dX15_count_116 : decode cX15_count 116 = .ok (.getfield 99, 3) := by decide +kernel
theorem dX15_count_119 : decode cX15_count 119 = .ok (.ireturn, 1) := by decide +kernel
theorem dX15_count_120 : decode cX15_count 120 = .ok (.aload_n 0, 1) := by decide +kernel
theorem dX15_count_121 : decode cX15_count 121 = .ok (.getfield 343, 3) := by decide +kernel
theorem dX15_count_124 : decode cX15_count 124 = .ok (.ireturn, 1) := by decide +kernel
theorem dX15_count_125 : decode cX15_count 125 = .ok (.aload_n 0, 1) := by decide +kernel
theorem dX15_count_126 : decode cX15_count 126 = .ok (.getfield 381, 3) := by decide +kernel
theorem dX15_count_129 : decode cX15_count 129 = .ok (.ireturn, 1) := by decide +kernel
theorem dX15_count_130 : decode cX15_count 130 = .ok (.aload_n 0, 1) := by decide +kernel
theorem dX15_count_131 : decode cX15_count 131 = .ok (.getfield 43, 3) := by decide +kernel
theorem dX15_count_134 : decode cX15_count 134 = .ok (.ireturn, 1) := by decide +kernel
theorem dX15_count_135 : decode cX15_count 135 = .ok (.iconst 0, 1) := by decide +kernel
theorem dX15_count_136 : decode cX15_count 136 = .ok (.istore_n 3, 1) := by decide +kernel
theorem dX15_count_137 : decode cX15_count 137 = .ok (.iload_n 3, 1) := by decide +kernel
theorem dX15_count_138 : decode cX15_count 138 = .ok (.aload_n 0, 1) := by decide +kernel
theorem dX15_count_139 : decode cX15_count 139 = .ok (.getfield 139, 3) := by decide +kernel
theorem dX15_count_142 : decode cX15_count 142 = .ok (.if_icmp .ge 24, 3) := by decide +kernel
theorem dX15_count_145 : decode cX15_count 145 = .ok (.iload_n 2, 1) := by decide +kernel
theorem dX15_count_146 : decode cX15_count 146 = .ok (.aload_n 0, 1) := by decide +kernel
theorem dX15_count_147 : decode cX15_count 147 = .ok (.getfield 21, 3) := by decide +kernel
theorem dX15_count_150 : decode cX15_count 150 = .ok (.iload_n 3, 1) := by decide +kernel
theorem dX15_count_151 : decode cX15_count 151 = .ok (.aaload, 1) := by decide +kernel
theorem dX15_count_152 : decode cX15_count 152 = .ok (.getfield 155, 3) := by decide +kernel
theorem dX15_count_155 : decode cX15_count 155 = .ok (.getfield 96, 3) := by decide +kernel
theorem dX15_count_158 : decode cX15_count 158 = .ok (.iadd, 1) := by decide +kernel
theorem dX15_count_159 : decode cX15_count 159 = .ok (.istore_n 2, 1) := by decide +kernel
theorem dX15_count_160 : decode cX15_count 160 = .ok (.iinc 3 1, 3) := by decide +kernel
theorem dX15_count_163 : decode cX15_count 163 = .ok (.goto (-26), 3) := by decide +kernel
theorem dX15_count_166 : decode cX15_count 166 = .ok (.iconst 0, 1) := by decide +kernel
theorem dX15_count_167 : decode cX15_count 167 = .ok (.istore_n 3, 1) := by decide +kernel
theorem dX15_count_168 : decode cX15_count 168 = .ok (.iload_n 3, 1) := by decide +kernel
theorem dX15_count_169 : decode cX15_count 169 = .ok (.aload_n 0, 1) := by decide +kernel
theorem dX15_count_170 : decode cX15_count 170 = .ok (.getfield 142, 3) := by decide +kernel
theorem dX15_count_173 : decode cX15_count 173 = .ok (.if_icmp .ge 41, 3) := by decide +kernel
theorem dX15_count_176 : decode cX15_count 176 = .ok (.iload_n 2, 1) := by decide +kernel
theorem dX15_count_177 : decode cX15_count 177 = .ok (.aload_n 0, 1) := by decide +kernel
theorem dX15_count_178 : decode cX15_count 178 = .ok (.getfield 27, 3) := by decide +kernel
theorem dX15_count_181 : decode cX15_count 181 = .ok (.iload_n 3, 1) := by decide +kernel
theorem dX15_count_182 : decode cX15_count 182 = .ok (.aaload, 1) := by decide +kernel
theorem dX15_count_183 : decode cX15_count 183 = .ok (.getfield 280, 3) := by decide +kernel
theorem dX15_count_186 : decode cX15_count 186 = .ok (.iconst 0, 1) := by decide +kernel
theorem dX15_count_187 : decode cX15_count 187 = .ok (.aaload, 1) := by decide +kernel
theorem dX15_count_188 : decode cX15_count 188 = .ok (.getfield 96, 3) := by decide +kernel
theorem dX15_count_191 : decode cX15_count 191 = .ok (.aload_n 0, 1) := by decide +kernel
theorem dX15_count_192 : decode cX15_count 192 = .ok (.getfield 27, 3) := by decide +kernel
theorem dX15_count_195 : decode cX15_count 195 = .ok (.iload_n 3, 1) := by decide +kernel
theorem dX15_count_196 : decode cX15_count 196 = .ok (.aaload, 1) := by decide +kernel
theorem dX15_count_197 : decode cX15_count 197 = .ok (.getfield 280, 3) := by decide +kernel
theorem dX15_count_200 : decode cX15_count 200 = .ok (.iconst 1, 1) := by decide +kernel
theorem dX15_count_201 : decode cX15_count 201 = .ok (.aaload, 1) := by decide +kernel
theorem dX15_count_202 : decode cX15_count 202 = .ok (.getfield 96, 3) := by decide +kernel
theorem dX15_count_205 : decode cX15_count 205 = .ok (.iadd, 1) := by decide +kernel
theorem dX15_count_206 : decode cX15_count 206 = .ok (.iadd, 1) := by decide +kernel
theorem dX15_count_207 : decode cX15_count 207 = .ok (.istore_n 2, 1) := by decide +kernel
theorem dX15_count_208 : decode cX15_count 208 = .ok (.iinc 3 1, 3) := by decide +kernel
theorem dX15_count_211 : decode cX15_count 211 = .ok (.goto (-43), 3) := by decide +kernel
theorem dX15_count_214 : decode cX15_count 214 = .ok (.iconst 0, 1) := by decide +kernel
theorem dX15_count_215 : decode cX15_count 215 = .ok (.istore_n 3, 1) := by decide +kernel
theorem dX15_count_216 : decode cX15_count 216 = .ok (.iload_n 3, 1) := by decide +kernel
theorem dX15_count_217 : decode cX15_count 217 = .ok (.aload_n 0, 1) := by decide +kernel
theorem dX15_count_218 : decode cX15_count 218 = .ok (.getfield 132, 3) := by decide +kernel
theorem dX15_count_221 : decode cX15_count 221 = .ok (.if_icmp .ge 21, 3) := by decide +kernel
theorem dX15_count_224 : decode cX15_count 224 = .ok (.iload_n 2, 1) := by decide +kernel
theorem dX15_count_225 : decode cX15_count 225 = .ok (.aload_n 0, 1) := by decide +kernel
theorem dX15_count_226 : decode cX15_count 226 = .ok (.getfield 15, 3) := by decide +kernel
theorem dX15_count_229 : decode cX15_count 229 = .ok (.iload_n 3, 1) := by decide +kernel
theorem dX15_count_230 : decode cX15_count 230 = .ok (.aaload, 1) := by decide +kernel
theorem dX15_count_231 : decode cX15_count 231 = .ok (.getfield 96, 3) := by decide +kernel
theorem dX15_count_234 : decode cX15_count 234 = .ok (.iadd, 1) := by decide +kernel
theorem dX15_count_235 : decode cX15_count 235 = .ok (.istore_n 2, 1) := by decide +kernel
theorem dX15_count_236 : decode cX15_count 236 = .ok (.iinc 3 1, 3) := by decide +kernel
theorem dX15_count_239 : decode cX15_count 239 = .ok (.goto (-23), 3) := by decide +kernel
theorem dX15_count_242 : decode cX15_count 242 = .ok (.iload_n 2, 1) := by decide +kernel
theorem dX15_count_243 : decode cX15_count 243 = .ok (.ireturn, 1) := by decide +kernel
theorem dX15_count_244 : decode cX15_count 244 = .ok (.aload_n 0, 1) := by decide +kernel
theorem dX15_count_245 : decode cX15_count 245 = .ok (.getfield 295, 3) := by decide +kernel
theorem dX15_count_248 : decode cX15_count 248 = .ok (.ireturn, 1) := by decide +kernel
theorem dX15_count_249 : decode cX15_count 249 = .ok (.aload_n 0, 1) := by decide +kernel
theorem dX15_count_250 : decode cX15_count 250 = .ok (.getfield 433, 3) := by decide +kernel
theorem dX15_count_253 : decode cX15_count 253 = .ok (.ireturn, 1) := by decide +kernel
theorem dX15_count_254 : decode cX15_count 254 = .ok (.iconst (-1), 1) := by decide +kernel
theorem dX15_count_255 : decode cX15_count 255 = .ok (.ireturn, 1) := by decide +kernel
