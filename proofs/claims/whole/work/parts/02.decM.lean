theorem d_M_init_0 : decode b_M_init 0 = .ok (.aload_n 0, 1) := by decide +kernel
theorem d_M_init_1 : decode b_M_init 1 = .ok (.invokespecial 1, 3) := by decide +kernel
theorem d_M_init_4 : decode b_M_init 4 = .ok (.aload_n 0, 1) := by decide +kernel
theorem d_M_init_5 : decode b_M_init 5 = .ok (.ldc 7, 2) := by decide +kernel
theorem d_M_init_7 : decode b_M_init 7 = .ok (.newarray .byte, 2) := by decide +kernel
theorem d_M_init_9 : decode b_M_init 9 = .ok (.putfield 8, 3) := by decide +kernel
theorem d_M_init_12 : decode b_M_init 12 = .ok (.aload_n 0, 1) := by decide +kernel
theorem d_M_init_13 : decode b_M_init 13 = .ok (.iconst 1, 1) := by decide +kernel
theorem d_M_init_14 : decode b_M_init 14 = .ok (.putfield 14, 3) := by decide +kernel
theorem d_M_init_17 : decode b_M_init 17 = .ok (.aload_n 0, 1) := by decide +kernel
theorem d_M_init_18 : decode b_M_init 18 = .ok (.sipush 2000, 3) := by decide +kernel
theorem d_M_init_21 : decode b_M_init 21 = .ok (.newarray .int, 2) := by decide +kernel
theorem d_M_init_23 : decode b_M_init 23 = .ok (.putfield 18, 3) := by decide +kernel
theorem d_M_init_26 : decode b_M_init 26 = .ok (.aload_n 0, 1) := by decide +kernel
theorem d_M_init_27 : decode b_M_init 27 = .ok (.sipush 2000, 3) := by decide +kernel
theorem d_M_init_30 : decode b_M_init 30 = .ok (.newarray .boolean, 2) := by decide +kernel
theorem d_M_init_32 : decode b_M_init 32 = .ok (.putfield 22, 3) := by decide +kernel
theorem d_M_init_35 : decode b_M_init 35 = .ok (.aload_n 0, 1) := by decide +kernel
theorem d_M_init_36 : decode b_M_init 36 = .ok (.sipush 1000, 3) := by decide +kernel
theorem d_M_init_39 : decode b_M_init 39 = .ok (.newarray .byte, 2) := by decide +kernel
theorem d_M_init_41 : decode b_M_init 41 = .ok (.putfield 26, 3) := by decide +kernel
theorem d_M_init_44 : decode b_M_init 44 = .ok (.aload_n 0, 1) := by decide +kernel
theorem d_M_init_45 : decode b_M_init 45 = .ok (.iconst (-1), 1) := by decide +kernel
theorem d_M_init_46 : decode b_M_init 46 = .ok (.putfield 29, 3) := by decide +kernel
theorem d_M_init_49 : decode b_M_init 49 = .ok (.aload_n 0, 1) := by decide +kernel
theorem d_M_init_50 : decode b_M_init 50 = .ok (.sipush 15872, 3) := by decide +kernel
theorem d_M_init_53 : decode b_M_init 53 = .ok (.newarray .byte, 2) := by decide +kernel
theorem d_M_init_55 : decode b_M_init 55 = .ok (.putfield 32, 3) := by decide +kernel
theorem d_M_init_58 : decode b_M_init 58 = .ok (.aload_n 0, 1) := by decide +kernel
theorem d_M_init_59 : decode b_M_init 59 = .ok (.sipush 512, 3) := by decide +kernel
theorem d_M_init_62 : decode b_M_init 62 = .ok (.newarray .byte, 2) := by decide +kernel
theorem d_M_init_64 : decode b_M_init 64 = .ok (.putfield 35, 3) := by decide +kernel
theorem d_M_init_67 : decode b_M_init 67 = .ok (.return_, 1) := by decide +kernel
theorem d_M_thrown_0 : decode b_M_thrown 0 = .ok (.aload_n 0, 1) := by decide +kernel
theorem d_M_thrown_1 : decode b_M_thrown 1 = .ok (.getfield 38, 3) := by decide +kernel
theorem d_M_thrown_4 : decode b_M_thrown 4 = .ok (.ireturn, 1) := by decide +kernel
theorem d_M_checkOf_0 : decode b_M_checkOf 0 = .ok (.iconst (-1), 1) := by decide +kernel
theorem d_M_checkOf_1 : decode b_M_checkOf 1 = .ok (.istore_n 3, 1) := by decide +kernel
theorem d_M_checkOf_2 : decode b_M_checkOf 2 = .ok (.iload_n 1, 1) := by decide +kernel
theorem d_M_checkOf_3 : decode b_M_checkOf 3 = .ok (.istore 4, 2) := by decide +kernel
theorem d_M_checkOf_5 : decode b_M_checkOf 5 = .ok (.iload 4, 2) := by decide +kernel
theorem d_M_checkOf_7 : decode b_M_checkOf 7 = .ok (.iload_n 2, 1) := by decide +kernel
theorem d_M_checkOf_8 : decode b_M_checkOf 8 = .ok (.if_icmp .ge 56, 3) := by decide +kernel
theorem d_M_checkOf_11 : decode b_M_checkOf 11 = .ok (.iload_n 3, 1) := by decide +kernel
theorem d_M_checkOf_12 : decode b_M_checkOf 12 = .ok (.aload_n 0, 1) := by decide +kernel
theorem d_M_checkOf_13 : decode b_M_checkOf 13 = .ok (.iload 4, 2) := by decide +kernel
theorem d_M_checkOf_15 : decode b_M_checkOf 15 = .ok (.baload, 1) := by decide +kernel
theorem d_M_checkOf_16 : decode b_M_checkOf 16 = .ok (.sipush 255, 3) := by decide +kernel
theorem d_M_checkOf_19 : decode b_M_checkOf 19 = .ok (.iand, 1) := by decide +kernel
theorem d_M_checkOf_20 : decode b_M_checkOf 20 = .ok (.ixor, 1) := by decide +kernel
theorem d_M_checkOf_21 : decode b_M_checkOf 21 = .ok (.istore_n 3, 1) := by decide +kernel
theorem d_M_checkOf_22 : decode b_M_checkOf 22 = .ok (.iconst 0, 1) := by decide +kernel
theorem d_M_checkOf_23 : decode b_M_checkOf 23 = .ok (.istore 5, 2) := by decide +kernel
theorem d_M_checkOf_25 : decode b_M_checkOf 25 = .ok (.iload 5, 2) := by decide +kernel
theorem d_M_checkOf_27 : decode b_M_checkOf 27 = .ok (.bipush 8, 2) := by decide +kernel
theorem d_M_checkOf_29 : decode b_M_checkOf 29 = .ok (.if_icmp .ge 29, 3) := by decide +kernel
theorem d_M_checkOf_32 : decode b_M_checkOf 32 = .ok (.iload_n 3, 1) := by decide +kernel
theorem d_M_checkOf_33 : decode b_M_checkOf 33 = .ok (.iconst 1, 1) := by decide +kernel
theorem d_M_checkOf_34 : decode b_M_checkOf 34 = .ok (.iand, 1) := by decide +kernel
theorem d_M_checkOf_35 : decode b_M_checkOf 35 = .ok (.iconst 1, 1) := by decide +kernel
theorem d_M_checkOf_36 : decode b_M_checkOf 36 = .ok (.if_icmp .ne 12, 3) := by decide +kernel
theorem d_M_checkOf_39 : decode b_M_checkOf 39 = .ok (.iload_n 3, 1) := by decide +kernel
theorem d_M_checkOf_40 : decode b_M_checkOf 40 = .ok (.iconst 1, 1) := by decide +kernel
theorem d_M_checkOf_41 : decode b_M_checkOf 41 = .ok (.iushr, 1) := by decide +kernel
theorem d_M_checkOf_42 : decode b_M_checkOf 42 = .ok (.ldc 41, 2) := by decide +kernel
theorem d_M_checkOf_44 : decode b_M_checkOf 44 = .ok (.ixor, 1) := by decide +kernel
theorem d_M_checkOf_45 : decode b_M_checkOf 45 = .ok (.goto 6, 3) := by decide +kernel
theorem d_M_checkOf_48 : decode b_M_checkOf 48 = .ok (.iload_n 3, 1) := by decide +kernel
theorem d_M_checkOf_49 : decode b_M_checkOf 49 = .ok (.iconst 1, 1) := by decide +kernel
theorem d_M_checkOf_50 : decode b_M_checkOf 50 = .ok (.iushr, 1) := by decide +kernel
theorem d_M_checkOf_51 : decode b_M_checkOf 51 = .ok (.istore_n 3, 1) := by decide +kernel
theorem d_M_checkOf_52 : decode b_M_checkOf 52 = .ok (.iinc 5 1, 3) := by decide +kernel
theorem d_M_checkOf_55 : decode b_M_checkOf 55 = .ok (.goto (-30), 3) := by decide +kernel
theorem d_M_checkOf_58 : decode b_M_checkOf 58 = .ok (.iinc 4 1, 3) := by decide +kernel
theorem d_M_checkOf_61 : decode b_M_checkOf 61 = .ok (.goto (-56), 3) := by decide +kernel
theorem d_M_checkOf_64 : decode b_M_checkOf 64 = .ok (.iload_n 3, 1) := by decide +kernel
theorem d_M_checkOf_65 : decode b_M_checkOf 65 = .ok (.iconst (-1), 1) := by decide +kernel
theorem d_M_checkOf_66 : decode b_M_checkOf 66 = .ok (.ixor, 1) := by decide +kernel
theorem d_M_checkOf_67 : decode b_M_checkOf 67 = .ok (.ireturn, 1) := by decide +kernel
theorem d_M_four_0 : decode b_M_four 0 = .ok (.aload_n 0, 1) := by decide +kernel
theorem d_M_four_1 : decode b_M_four 1 = .ok (.iload_n 1, 1) := by decide +kernel
theorem d_M_four_2 : decode b_M_four 2 = .ok (.baload, 1) := by decide +kernel
theorem d_M_four_3 : decode b_M_four 3 = .ok (.sipush 255, 3) := by decide +kernel
theorem d_M_four_6 : decode b_M_four 6 = .ok (.iand, 1) := by decide +kernel
theorem d_M_four_7 : decode b_M_four 7 = .ok (.aload_n 0, 1) := by decide +kernel
theorem d_M_four_8 : decode b_M_four 8 = .ok (.iload_n 1, 1) := by decide +kernel
theorem d_M_four_9 : decode b_M_four 9 = .ok (.iconst 1, 1) := by decide +kernel
theorem d_M_four_10 : decode b_M_four 10 = .ok (.iadd, 1) := by decide +kernel
theorem d_M_four_11 : decode b_M_four 11 = .ok (.baload, 1) := by decide +kernel
theorem d_M_four_12 : decode b_M_four 12 = .ok (.sipush 255, 3) := by decide +kernel
theorem d_M_four_15 : decode b_M_four 15 = .ok (.iand, 1) := by decide +kernel
theorem d_M_four_16 : decode b_M_four 16 = .ok (.bipush 8, 2) := by decide +kernel
theorem d_M_four_18 : decode b_M_four 18 = .ok (.ishl, 1) := by decide +kernel
theorem d_M_four_19 : decode b_M_four 19 = .ok (.ior, 1) := by decide +kernel
theorem d_M_four_20 : decode b_M_four 20 = .ok (.aload_n 0, 1) := by decide +kernel
theorem d_M_four_21 : decode b_M_four 21 = .ok (.iload_n 1, 1) := by decide +kernel
theorem d_M_four_22 : decode b_M_four 22 = .ok (.iconst 2, 1) := by decide +kernel
theorem d_M_four_23 : decode b_M_four 23 = .ok (.iadd, 1) := by decide +kernel
theorem d_M_four_24 : decode b_M_four 24 = .ok (.baload, 1) := by decide +kernel
theorem d_M_four_25 : decode b_M_four 25 = .ok (.sipush 255, 3) := by decide +kernel
theorem d_M_four_28 : decode b_M_four 28 = .ok (.iand, 1) := by decide +kernel
theorem d_M_four_29 : decode b_M_four 29 = .ok (.bipush 16, 2) := by decide +kernel
theorem d_M_four_31 : decode b_M_four 31 = .ok (.ishl, 1) := by decide +kernel
theorem d_M_four_32 : decode b_M_four 32 = .ok (.ior, 1) := by decide +kernel
theorem d_M_four_33 : decode b_M_four 33 = .ok (.aload_n 0, 1) := by decide +kernel
theorem d_M_four_34 : decode b_M_four 34 = .ok (.iload_n 1, 1) := by decide +kernel
theorem d_M_four_35 : decode b_M_four 35 = .ok (.iconst 3, 1) := by decide +kernel
theorem d_M_four_36 : decode b_M_four 36 = .ok (.iadd, 1) := by decide +kernel
theorem d_M_four_37 : decode b_M_four 37 = .ok (.baload, 1) := by decide +kernel
theorem d_M_four_38 : decode b_M_four 38 = .ok (.sipush 255, 3) := by decide +kernel
theorem d_M_four_41 : decode b_M_four 41 = .ok (.iand, 1) := by decide +kernel
theorem d_M_four_42 : decode b_M_four 42 = .ok (.bipush 24, 2) := by decide +kernel
theorem d_M_four_44 : decode b_M_four 44 = .ok (.ishl, 1) := by decide +kernel
theorem d_M_four_45 : decode b_M_four 45 = .ok (.ior, 1) := by decide +kernel
theorem d_M_four_46 : decode b_M_four 46 = .ok (.ireturn, 1) := by decide +kernel
theorem d_M_putFour_0 : decode b_M_putFour 0 = .ok (.iconst 0, 1) := by decide +kernel
theorem d_M_putFour_1 : decode b_M_putFour 1 = .ok (.istore_n 3, 1) := by decide +kernel
theorem d_M_putFour_2 : decode b_M_putFour 2 = .ok (.iload_n 3, 1) := by decide +kernel
theorem d_M_putFour_3 : decode b_M_putFour 3 = .ok (.iconst 4, 1) := by decide +kernel
theorem d_M_putFour_4 : decode b_M_putFour 4 = .ok (.if_icmp .ge 21, 3) := by decide +kernel
theorem d_M_putFour_7 : decode b_M_putFour 7 = .ok (.aload_n 0, 1) := by decide +kernel
theorem d_M_putFour_8 : decode b_M_putFour 8 = .ok (.iload_n 1, 1) := by decide +kernel
theorem d_M_putFour_9 : decode b_M_putFour 9 = .ok (.iload_n 3, 1) := by decide +kernel
theorem d_M_putFour_10 : decode b_M_putFour 10 = .ok (.iadd, 1) := by decide +kernel
theorem d_M_putFour_11 : decode b_M_putFour 11 = .ok (.iload_n 2, 1) := by decide +kernel
theorem d_M_putFour_12 : decode b_M_putFour 12 = .ok (.bipush 8, 2) := by decide +kernel
theorem d_M_putFour_14 : decode b_M_putFour 14 = .ok (.iload_n 3, 1) := by decide +kernel
theorem d_M_putFour_15 : decode b_M_putFour 15 = .ok (.imul, 1) := by decide +kernel
theorem d_M_putFour_16 : decode b_M_putFour 16 = .ok (.ishr, 1) := by decide +kernel
theorem d_M_putFour_17 : decode b_M_putFour 17 = .ok (.i2b, 1) := by decide +kernel
theorem d_M_putFour_18 : decode b_M_putFour 18 = .ok (.bastore, 1) := by decide +kernel
theorem d_M_putFour_19 : decode b_M_putFour 19 = .ok (.iinc 3 1, 3) := by decide +kernel
theorem d_M_putFour_22 : decode b_M_putFour 22 = .ok (.goto (-20), 3) := by decide +kernel
theorem d_M_putFour_25 : decode b_M_putFour 25 = .ok (.return_, 1) := by decide +kernel
theorem d_M_begin_0 : decode b_M_begin 0 = .ok (.sipush 512, 3) := by decide +kernel
theorem d_M_begin_3 : decode b_M_begin 3 = .ok (.iload_n 0, 1) := by decide +kernel
theorem d_M_begin_4 : decode b_M_begin 4 = .ok (.ifCond .ne 7, 3) := by decide +kernel
theorem d_M_begin_7 : decode b_M_begin 7 = .ok (.iconst 2, 1) := by decide +kernel
theorem d_M_begin_8 : decode b_M_begin 8 = .ok (.goto 5, 3) := by decide +kernel
theorem d_M_begin_11 : decode b_M_begin 11 = .ok (.bipush 33, 2) := by decide +kernel
theorem d_M_begin_13 : decode b_M_begin 13 = .ok (.imul, 1) := by decide +kernel
theorem d_M_begin_14 : decode b_M_begin 14 = .ok (.ireturn, 1) := by decide +kernel
theorem d_M_isHead_0 : decode b_M_isHead 0 = .ok (.sipush 512, 3) := by decide +kernel
theorem d_M_isHead_3 : decode b_M_isHead 3 = .ok (.iload_n 1, 1) := by decide +kernel
theorem d_M_isHead_4 : decode b_M_isHead 4 = .ok (.imul, 1) := by decide +kernel
theorem d_M_isHead_5 : decode b_M_isHead 5 = .ok (.istore_n 2, 1) := by decide +kernel
theorem d_M_isHead_6 : decode b_M_isHead 6 = .ok (.aload_n 0, 1) := by decide +kernel
theorem d_M_isHead_7 : decode b_M_isHead 7 = .ok (.getfield 8, 3) := by decide +kernel
theorem d_M_isHead_10 : decode b_M_isHead 10 = .ok (.iload_n 2, 1) := by decide +kernel
theorem d_M_isHead_11 : decode b_M_isHead 11 = .ok (.baload, 1) := by decide +kernel
theorem d_M_isHead_12 : decode b_M_isHead 12 = .ok (.bipush 74, 2) := by decide +kernel
theorem d_M_isHead_14 : decode b_M_isHead 14 = .ok (.if_icmp .ne 54, 3) := by decide +kernel
theorem d_M_isHead_17 : decode b_M_isHead 17 = .ok (.aload_n 0, 1) := by decide +kernel
theorem d_M_isHead_18 : decode b_M_isHead 18 = .ok (.getfield 8, 3) := by decide +kernel
theorem d_M_isHead_21 : decode b_M_isHead 21 = .ok (.iload_n 2, 1) := by decide +kernel
theorem d_M_isHead_22 : decode b_M_isHead 22 = .ok (.iconst 1, 1) := by decide +kernel
theorem d_M_isHead_23 : decode b_M_isHead 23 = .ok (.iadd, 1) := by decide +kernel
theorem d_M_isHead_24 : decode b_M_isHead 24 = .ok (.baload, 1) := by decide +kernel
theorem d_M_isHead_25 : decode b_M_isHead 25 = .ok (.bipush 49, 2) := by decide +kernel
theorem d_M_isHead_27 : decode b_M_isHead 27 = .ok (.if_icmp .ne 41, 3) := by decide +kernel
theorem d_M_isHead_30 : decode b_M_isHead 30 = .ok (.aload_n 0, 1) := by decide +kernel
theorem d_M_isHead_31 : decode b_M_isHead 31 = .ok (.getfield 8, 3) := by decide +kernel
theorem d_M_isHead_34 : decode b_M_isHead 34 = .ok (.iload_n 2, 1) := by decide +kernel
theorem d_M_isHead_35 : decode b_M_isHead 35 = .ok (.iconst 2, 1) := by decide +kernel
theorem d_M_isHead_36 : decode b_M_isHead 36 = .ok (.iadd, 1) := by decide +kernel
theorem d_M_isHead_37 : decode b_M_isHead 37 = .ok (.baload, 1) := by decide +kernel
theorem d_M_isHead_38 : decode b_M_isHead 38 = .ok (.ifCond .lt 30, 3) := by decide +kernel
theorem d_M_isHead_41 : decode b_M_isHead 41 = .ok (.aload_n 0, 1) := by decide +kernel
theorem d_M_isHead_42 : decode b_M_isHead 42 = .ok (.getfield 8, 3) := by decide +kernel
theorem d_M_isHead_45 : decode b_M_isHead 45 = .ok (.iload_n 2, 1) := by decide +kernel
theorem d_M_isHead_46 : decode b_M_isHead 46 = .ok (.iconst 2, 1) := by decide +kernel
theorem d_M_isHead_47 : decode b_M_isHead 47 = .ok (.iadd, 1) := by decide +kernel
theorem d_M_isHead_48 : decode b_M_isHead 48 = .ok (.baload, 1) := by decide +kernel
theorem d_M_isHead_49 : decode b_M_isHead 49 = .ok (.iconst 2, 1) := by decide +kernel
theorem d_M_isHead_50 : decode b_M_isHead 50 = .ok (.if_icmp .ge 18, 3) := by decide +kernel
theorem d_M_isHead_53 : decode b_M_isHead 53 = .ok (.aload_n 0, 1) := by decide +kernel
theorem d_M_isHead_54 : decode b_M_isHead 54 = .ok (.getfield 8, 3) := by decide +kernel
theorem d_M_isHead_57 : decode b_M_isHead 57 = .ok (.iload_n 2, 1) := by decide +kernel
theorem d_M_isHead_58 : decode b_M_isHead 58 = .ok (.iconst 3, 1) := by decide +kernel
theorem d_M_isHead_59 : decode b_M_isHead 59 = .ok (.iadd, 1) := by decide +kernel
theorem d_M_isHead_60 : decode b_M_isHead 60 = .ok (.baload, 1) := by decide +kernel
theorem d_M_isHead_61 : decode b_M_isHead 61 = .ok (.ifCond .ne 7, 3) := by decide +kernel
theorem d_M_isHead_64 : decode b_M_isHead 64 = .ok (.iconst 1, 1) := by decide +kernel
theorem d_M_isHead_65 : decode b_M_isHead 65 = .ok (.goto 4, 3) := by decide +kernel
theorem d_M_isHead_68 : decode b_M_isHead 68 = .ok (.iconst 0, 1) := by decide +kernel
theorem d_M_isHead_69 : decode b_M_isHead 69 = .ok (.istore_n 3, 1) := by decide +kernel
theorem d_M_isHead_70 : decode b_M_isHead 70 = .ok (.iload_n 3, 1) := by decide +kernel
theorem d_M_isHead_71 : decode b_M_isHead 71 = .ok (.ifCond .eq 46, 3) := by decide +kernel
theorem d_M_isHead_74 : decode b_M_isHead 74 = .ok (.aload_n 0, 1) := by decide +kernel
theorem d_M_isHead_75 : decode b_M_isHead 75 = .ok (.getfield 8, 3) := by decide +kernel
theorem d_M_isHead_78 : decode b_M_isHead 78 = .ok (.iload_n 2, 1) := by decide +kernel
theorem d_M_isHead_79 : decode b_M_isHead 79 = .ok (.iconst 4, 1) := by decide +kernel
theorem d_M_isHead_80 : decode b_M_isHead 80 = .ok (.iadd, 1) := by decide +kernel
theorem d_M_isHead_81 : decode b_M_isHead 81 = .ok (.invokestatic 42, 3) := by decide +kernel
theorem d_M_isHead_84 : decode b_M_isHead 84 = .ok (.ifCond .le 33, 3) := by decide +kernel
theorem d_M_isHead_87 : decode b_M_isHead 87 = .ok (.aload_n 0, 1) := by decide +kernel
theorem d_M_isHead_88 : decode b_M_isHead 88 = .ok (.getfield 8, 3) := by decide +kernel
theorem d_M_isHead_91 : decode b_M_isHead 91 = .ok (.iload_n 2, 1) := by decide +kernel
theorem d_M_isHead_92 : decode b_M_isHead 92 = .ok (.bipush 8, 2) := by decide +kernel
theorem d_M_isHead_94 : decode b_M_isHead 94 = .ok (.iadd, 1) := by decide +kernel
theorem d_M_isHead_95 : decode b_M_isHead 95 = .ok (.invokestatic 42, 3) := by decide +kernel
theorem d_M_isHead_98 : decode b_M_isHead 98 = .ok (.aload_n 0, 1) := by decide +kernel
theorem d_M_isHead_99 : decode b_M_isHead 99 = .ok (.getfield 8, 3) := by decide +kernel
theorem d_M_isHead_102 : decode b_M_isHead 102 = .ok (.iload_n 2, 1) := by decide +kernel
theorem d_M_isHead_103 : decode b_M_isHead 103 = .ok (.iload_n 2, 1) := by decide +kernel
theorem d_M_isHead_104 : decode b_M_isHead 104 = .ok (.bipush 8, 2) := by decide +kernel
theorem d_M_isHead_106 : decode b_M_isHead 106 = .ok (.iadd, 1) := by decide +kernel
theorem d_M_isHead_107 : decode b_M_isHead 107 = .ok (.invokestatic 46, 3) := by decide +kernel
theorem d_M_isHead_110 : decode b_M_isHead 110 = .ok (.if_icmp .ne 7, 3) := by decide +kernel
theorem d_M_isHead_113 : decode b_M_isHead 113 = .ok (.iconst 1, 1) := by decide +kernel
theorem d_M_isHead_114 : decode b_M_isHead 114 = .ok (.goto 4, 3) := by decide +kernel
theorem d_M_isHead_117 : decode b_M_isHead 117 = .ok (.iconst 0, 1) := by decide +kernel
theorem d_M_isHead_118 : decode b_M_isHead 118 = .ok (.ireturn, 1) := by decide +kernel
theorem d_M_sizeOf_0 : decode b_M_sizeOf 0 = .ok (.bipush 6, 2) := by decide +kernel
theorem d_M_sizeOf_2 : decode b_M_sizeOf 2 = .ok (.iload_n 0, 1) := by decide +kernel
theorem d_M_sizeOf_3 : decode b_M_sizeOf 3 = .ok (.iadd, 1) := by decide +kernel
theorem d_M_sizeOf_4 : decode b_M_sizeOf 4 = .ok (.iload_n 0, 1) := by decide +kernel
theorem d_M_sizeOf_5 : decode b_M_sizeOf 5 = .ok (.iconst 2, 1) := by decide +kernel
theorem d_M_sizeOf_6 : decode b_M_sizeOf 6 = .ok (.irem, 1) := by decide +kernel
theorem d_M_sizeOf_7 : decode b_M_sizeOf 7 = .ok (.iadd, 1) := by decide +kernel
theorem d_M_sizeOf_8 : decode b_M_sizeOf 8 = .ok (.ireturn, 1) := by decide +kernel
theorem d_M_recordAt_0 : decode b_M_recordAt 0 = .ok (.iload_n 1, 1) := by decide +kernel
theorem d_M_recordAt_1 : decode b_M_recordAt 1 = .ok (.iconst 2, 1) := by decide +kernel
theorem d_M_recordAt_2 : decode b_M_recordAt 2 = .ok (.iadd, 1) := by decide +kernel
theorem d_M_recordAt_3 : decode b_M_recordAt 3 = .ok (.sipush 15872, 3) := by decide +kernel
theorem d_M_recordAt_6 : decode b_M_recordAt 6 = .ok (.if_icmp .le 5, 3) := by decide +kernel
theorem d_M_recordAt_9 : decode b_M_recordAt 9 = .ok (.iconst 0, 1) := by decide +kernel
theorem d_M_recordAt_10 : decode b_M_recordAt 10 = .ok (.ireturn, 1) := by decide +kernel
theorem d_M_recordAt_11 : decode b_M_recordAt 11 = .ok (.aload_n 0, 1) := by decide +kernel
theorem d_M_recordAt_12 : decode b_M_recordAt 12 = .ok (.getfield 50, 3) := by decide +kernel
theorem d_M_recordAt_15 : decode b_M_recordAt 15 = .ok (.invokestatic 53, 3) := by decide +kernel
theorem d_M_recordAt_18 : decode b_M_recordAt 18 = .ok (.iload_n 1, 1) := by decide +kernel
theorem d_M_recordAt_19 : decode b_M_recordAt 19 = .ok (.iadd, 1) := by decide +kernel
theorem d_M_recordAt_20 : decode b_M_recordAt 20 = .ok (.istore_n 2, 1) := by decide +kernel
theorem d_M_recordAt_21 : decode b_M_recordAt 21 = .ok (.aload_n 0, 1) := by decide +kernel
theorem d_M_recordAt_22 : decode b_M_recordAt 22 = .ok (.getfield 8, 3) := by decide +kernel
theorem d_M_recordAt_25 : decode b_M_recordAt 25 = .ok (.iload_n 2, 1) := by decide +kernel
theorem d_M_recordAt_26 : decode b_M_recordAt 26 = .ok (.baload, 1) := by decide +kernel
theorem d_M_recordAt_27 : decode b_M_recordAt 27 = .ok (.sipush 255, 3) := by decide +kernel
theorem d_M_recordAt_30 : decode b_M_recordAt 30 = .ok (.iand, 1) := by decide +kernel
theorem d_M_recordAt_31 : decode b_M_recordAt 31 = .ok (.sipush 256, 3) := by decide +kernel
theorem d_M_recordAt_34 : decode b_M_recordAt 34 = .ok (.aload_n 0, 1) := by decide +kernel
theorem d_M_recordAt_35 : decode b_M_recordAt 35 = .ok (.getfield 8, 3) := by decide +kernel
theorem d_M_recordAt_38 : decode b_M_recordAt 38 = .ok (.iload_n 2, 1) := by decide +kernel
theorem d_M_recordAt_39 : decode b_M_recordAt 39 = .ok (.iconst 1, 1) := by decide +kernel
theorem d_M_recordAt_40 : decode b_M_recordAt 40 = .ok (.iadd, 1) := by decide +kernel
theorem d_M_recordAt_41 : decode b_M_recordAt 41 = .ok (.baload, 1) := by decide +kernel
theorem d_M_recordAt_42 : decode b_M_recordAt 42 = .ok (.sipush 255, 3) := by decide +kernel
theorem d_M_recordAt_45 : decode b_M_recordAt 45 = .ok (.iand, 1) := by decide +kernel
theorem d_M_recordAt_46 : decode b_M_recordAt 46 = .ok (.imul, 1) := by decide +kernel
theorem d_M_recordAt_47 : decode b_M_recordAt 47 = .ok (.iadd, 1) := by decide +kernel
theorem d_M_recordAt_48 : decode b_M_recordAt 48 = .ok (.istore_n 3, 1) := by decide +kernel
theorem d_M_recordAt_49 : decode b_M_recordAt 49 = .ok (.iload_n 3, 1) := by decide +kernel
theorem d_M_recordAt_50 : decode b_M_recordAt 50 = .ok (.iconst 1, 1) := by decide +kernel
theorem d_M_recordAt_51 : decode b_M_recordAt 51 = .ok (.if_icmp .lt 22, 3) := by decide +kernel
theorem d_M_recordAt_54 : decode b_M_recordAt 54 = .ok (.iload_n 3, 1) := by decide +kernel
theorem d_M_recordAt_55 : decode b_M_recordAt 55 = .ok (.sipush 1000, 3) := by decide +kernel
theorem d_M_recordAt_58 : decode b_M_recordAt 58 = .ok (.if_icmp .gt 15, 3) := by decide +kernel
theorem d_M_recordAt_61 : decode b_M_recordAt 61 = .ok (.iload_n 1, 1) := by decide +kernel
theorem d_M_recordAt_62 : decode b_M_recordAt 62 = .ok (.iload_n 3, 1) := by decide +kernel
theorem d_M_recordAt_63 : decode b_M_recordAt 63 = .ok (.invokestatic 57, 3) := by decide +kernel
theorem d_M_recordAt_66 : decode b_M_recordAt 66 = .ok (.iadd, 1) := by decide +kernel
theorem d_M_recordAt_67 : decode b_M_recordAt 67 = .ok (.sipush 15872, 3) := by decide +kernel
theorem d_M_recordAt_70 : decode b_M_recordAt 70 = .ok (.if_icmp .le 5, 3) := by decide +kernel
theorem d_M_recordAt_73 : decode b_M_recordAt 73 = .ok (.iconst 0, 1) := by decide +kernel
theorem d_M_recordAt_74 : decode b_M_recordAt 74 = .ok (.ireturn, 1) := by decide +kernel
theorem d_M_recordAt_75 : decode b_M_recordAt 75 = .ok (.aload_n 0, 1) := by decide +kernel
theorem d_M_recordAt_76 : decode b_M_recordAt 76 = .ok (.getfield 8, 3) := by decide +kernel
theorem d_M_recordAt_79 : decode b_M_recordAt 79 = .ok (.iload_n 2, 1) := by decide +kernel
theorem d_M_recordAt_80 : decode b_M_recordAt 80 = .ok (.iconst 2, 1) := by decide +kernel
theorem d_M_recordAt_81 : decode b_M_recordAt 81 = .ok (.iadd, 1) := by decide +kernel
theorem d_M_recordAt_82 : decode b_M_recordAt 82 = .ok (.iload_n 3, 1) := by decide +kernel
theorem d_M_recordAt_83 : decode b_M_recordAt 83 = .ok (.iadd, 1) := by decide +kernel
theorem d_M_recordAt_84 : decode b_M_recordAt 84 = .ok (.invokestatic 42, 3) := by decide +kernel
theorem d_M_recordAt_87 : decode b_M_recordAt 87 = .ok (.aload_n 0, 1) := by decide +kernel
theorem d_M_recordAt_88 : decode b_M_recordAt 88 = .ok (.getfield 8, 3) := by decide +kernel
theorem d_M_recordAt_91 : decode b_M_recordAt 91 = .ok (.iload_n 2, 1) := by decide +kernel
theorem d_M_recordAt_92 : decode b_M_recordAt 92 = .ok (.iload_n 2, 1) := by decide +kernel
theorem d_M_recordAt_93 : decode b_M_recordAt 93 = .ok (.iconst 2, 1) := by decide +kernel
theorem d_M_recordAt_94 : decode b_M_recordAt 94 = .ok (.iadd, 1) := by decide +kernel
theorem d_M_recordAt_95 : decode b_M_recordAt 95 = .ok (.iload_n 3, 1) := by decide +kernel
theorem d_M_recordAt_96 : decode b_M_recordAt 96 = .ok (.iadd, 1) := by decide +kernel
theorem d_M_recordAt_97 : decode b_M_recordAt 97 = .ok (.invokestatic 46, 3) := by decide +kernel
theorem d_M_recordAt_100 : decode b_M_recordAt 100 = .ok (.if_icmp .ne 7, 3) := by decide +kernel
theorem d_M_recordAt_103 : decode b_M_recordAt 103 = .ok (.iload_n 3, 1) := by decide +kernel
theorem d_M_recordAt_104 : decode b_M_recordAt 104 = .ok (.goto 4, 3) := by decide +kernel
theorem d_M_recordAt_107 : decode b_M_recordAt 107 = .ok (.iconst 0, 1) := by decide +kernel
theorem d_M_recordAt_108 : decode b_M_recordAt 108 = .ok (.ireturn, 1) := by decide +kernel
theorem d_M_findRecords_0 : decode b_M_findRecords 0 = .ok (.aload_n 0, 1) := by decide +kernel
theorem d_M_findRecords_1 : decode b_M_findRecords 1 = .ok (.iconst 0, 1) := by decide +kernel
theorem d_M_findRecords_2 : decode b_M_findRecords 2 = .ok (.putfield 60, 3) := by decide +kernel
theorem d_M_findRecords_5 : decode b_M_findRecords 5 = .ok (.aload_n 0, 1) := by decide +kernel
theorem d_M_findRecords_6 : decode b_M_findRecords 6 = .ok (.iconst 0, 1) := by decide +kernel
theorem d_M_findRecords_7 : decode b_M_findRecords 7 = .ok (.putfield 63, 3) := by decide +kernel
theorem d_M_findRecords_10 : decode b_M_findRecords 10 = .ok (.aload_n 0, 1) := by decide +kernel
theorem d_M_findRecords_11 : decode b_M_findRecords 11 = .ok (.iconst 0, 1) := by decide +kernel
theorem d_M_findRecords_12 : decode b_M_findRecords 12 = .ok (.invokevirtual 66, 3) := by decide +kernel
theorem d_M_findRecords_15 : decode b_M_findRecords 15 = .ok (.istore_n 1, 1) := by decide +kernel
theorem d_M_findRecords_16 : decode b_M_findRecords 16 = .ok (.iload_n 1, 1) := by decide +kernel
theorem d_M_findRecords_17 : decode b_M_findRecords 17 = .ok (.ifCond .le 51, 3) := by decide +kernel
theorem d_M_findRecords_20 : decode b_M_findRecords 20 = .ok (.aload_n 0, 1) := by decide +kernel
theorem d_M_findRecords_21 : decode b_M_findRecords 21 = .ok (.getfield 18, 3) := by decide +kernel
theorem d_M_findRecords_24 : decode b_M_findRecords 24 = .ok (.aload_n 0, 1) := by decide +kernel
theorem d_M_findRecords_25 : decode b_M_findRecords 25 = .ok (.getfield 60, 3) := by decide +kernel
theorem d_M_findRecords_28 : decode b_M_findRecords 28 = .ok (.aload_n 0, 1) := by decide +kernel
theorem d_M_findRecords_29 : decode b_M_findRecords 29 = .ok (.getfield 63, 3) := by decide +kernel
theorem d_M_findRecords_32 : decode b_M_findRecords 32 = .ok (.iastore, 1) := by decide +kernel
theorem d_M_findRecords_33 : decode b_M_findRecords 33 = .ok (.aload_n 0, 1) := by decide +kernel
theorem d_M_findRecords_34 : decode b_M_findRecords 34 = .ok (.dup, 1) := by decide +kernel
theorem d_M_findRecords_35 : decode b_M_findRecords 35 = .ok (.getfield 60, 3) := by decide +kernel
theorem d_M_findRecords_38 : decode b_M_findRecords 38 = .ok (.iconst 1, 1) := by decide +kernel
theorem d_M_findRecords_39 : decode b_M_findRecords 39 = .ok (.iadd, 1) := by decide +kernel
theorem d_M_findRecords_40 : decode b_M_findRecords 40 = .ok (.putfield 60, 3) := by decide +kernel
theorem d_M_findRecords_43 : decode b_M_findRecords 43 = .ok (.aload_n 0, 1) := by decide +kernel
theorem d_M_findRecords_44 : decode b_M_findRecords 44 = .ok (.dup, 1) := by decide +kernel
theorem d_M_findRecords_45 : decode b_M_findRecords 45 = .ok (.getfield 63, 3) := by decide +kernel
theorem d_M_findRecords_48 : decode b_M_findRecords 48 = .ok (.iload_n 1, 1) := by decide +kernel
theorem d_M_findRecords_49 : decode b_M_findRecords 49 = .ok (.invokestatic 57, 3) := by decide +kernel
theorem d_M_findRecords_52 : decode b_M_findRecords 52 = .ok (.iadd, 1) := by decide +kernel
theorem d_M_findRecords_53 : decode b_M_findRecords 53 = .ok (.putfield 63, 3) := by decide +kernel
theorem d_M_findRecords_56 : decode b_M_findRecords 56 = .ok (.aload_n 0, 1) := by decide +kernel
theorem d_M_findRecords_57 : decode b_M_findRecords 57 = .ok (.aload_n 0, 1) := by decide +kernel
theorem d_M_findRecords_58 : decode b_M_findRecords 58 = .ok (.getfield 63, 3) := by decide +kernel
theorem d_M_findRecords_61 : decode b_M_findRecords 61 = .ok (.invokevirtual 66, 3) := by decide +kernel
theorem d_M_findRecords_64 : decode b_M_findRecords 64 = .ok (.istore_n 1, 1) := by decide +kernel
theorem d_M_findRecords_65 : decode b_M_findRecords 65 = .ok (.goto (-49), 3) := by decide +kernel
theorem d_M_findRecords_68 : decode b_M_findRecords 68 = .ok (.return_, 1) := by decide +kernel
theorem d_M_down_0 : decode b_M_down 0 = .ok (.aload_n 0, 1) := by decide +kernel
theorem d_M_down_1 : decode b_M_down 1 = .ok (.iconst 0, 1) := by decide +kernel
theorem d_M_down_2 : decode b_M_down 2 = .ok (.putfield 14, 3) := by decide +kernel
theorem d_M_down_5 : decode b_M_down 5 = .ok (.aload_n 0, 1) := by decide +kernel
theorem d_M_down_6 : decode b_M_down 6 = .ok (.invokevirtual 69, 3) := by decide +kernel
theorem d_M_down_9 : decode b_M_down 9 = .ok (.return_, 1) := by decide +kernel
theorem d_M_leave_0 : decode b_M_leave 0 = .ok (.aload_n 0, 1) := by decide +kernel
theorem d_M_leave_1 : decode b_M_leave 1 = .ok (.iconst 0, 1) := by decide +kernel
theorem d_M_leave_2 : decode b_M_leave 2 = .ok (.putfield 72, 3) := by decide +kernel
theorem d_M_leave_5 : decode b_M_leave 5 = .ok (.aload_n 0, 1) := by decide +kernel
theorem d_M_leave_6 : decode b_M_leave 6 = .ok (.iconst 0, 1) := by decide +kernel
theorem d_M_leave_7 : decode b_M_leave 7 = .ok (.putfield 50, 3) := by decide +kernel
theorem d_M_leave_10 : decode b_M_leave 10 = .ok (.aload_n 0, 1) := by decide +kernel
theorem d_M_leave_11 : decode b_M_leave 11 = .ok (.iconst 0, 1) := by decide +kernel
theorem d_M_leave_12 : decode b_M_leave 12 = .ok (.putfield 63, 3) := by decide +kernel
theorem d_M_leave_15 : decode b_M_leave 15 = .ok (.aload_n 0, 1) := by decide +kernel
theorem d_M_leave_16 : decode b_M_leave 16 = .ok (.iconst 0, 1) := by decide +kernel
theorem d_M_leave_17 : decode b_M_leave 17 = .ok (.putfield 60, 3) := by decide +kernel
theorem d_M_leave_20 : decode b_M_leave 20 = .ok (.return_, 1) := by decide +kernel
theorem d_M_unmark_0 : decode b_M_unmark 0 = .ok (.iconst 0, 1) := by decide +kernel
theorem d_M_unmark_1 : decode b_M_unmark 1 = .ok (.istore_n 1, 1) := by decide +kernel
theorem d_M_unmark_2 : decode b_M_unmark 2 = .ok (.iload_n 1, 1) := by decide +kernel
theorem d_M_unmark_3 : decode b_M_unmark 3 = .ok (.sipush 2000, 3) := by decide +kernel
theorem d_M_unmark_6 : decode b_M_unmark 6 = .ok (.if_icmp .ge 16, 3) := by decide +kernel
theorem d_M_unmark_9 : decode b_M_unmark 9 = .ok (.aload_n 0, 1) := by decide +kernel
theorem d_M_unmark_10 : decode b_M_unmark 10 = .ok (.getfield 22, 3) := by decide +kernel
theorem d_M_unmark_13 : decode b_M_unmark 13 = .ok (.iload_n 1, 1) := by decide +kernel
theorem d_M_unmark_14 : decode b_M_unmark 14 = .ok (.iconst 0, 1) := by decide +kernel
theorem d_M_unmark_15 : decode b_M_unmark 15 = .ok (.bastore, 1) := by decide +kernel
theorem d_M_unmark_16 : decode b_M_unmark 16 = .ok (.iinc 1 1, 3) := by decide +kernel
theorem d_M_unmark_19 : decode b_M_unmark 19 = .ok (.goto (-17), 3) := by decide +kernel
theorem d_M_unmark_22 : decode b_M_unmark 22 = .ok (.return_, 1) := by decide +kernel
theorem d_M_recover_0 : decode b_M_recover 0 = .ok (.aload_n 0, 1) := by decide +kernel
theorem d_M_recover_1 : decode b_M_recover 1 = .ok (.iconst 0, 1) := by decide +kernel
theorem d_M_recover_2 : decode b_M_recover 2 = .ok (.putfield 38, 3) := by decide +kernel
theorem d_M_recover_5 : decode b_M_recover 5 = .ok (.aload_n 0, 1) := by decide +kernel
theorem d_M_recover_6 : decode b_M_recover 6 = .ok (.iconst (-1), 1) := by decide +kernel
theorem d_M_recover_7 : decode b_M_recover 7 = .ok (.putfield 29, 3) := by decide +kernel
theorem d_M_recover_10 : decode b_M_recover 10 = .ok (.aload_n 0, 1) := by decide +kernel
theorem d_M_recover_11 : decode b_M_recover 11 = .ok (.invokevirtual 75, 3) := by decide +kernel
theorem d_M_recover_14 : decode b_M_recover 14 = .ok (.aload_n 0, 1) := by decide +kernel
theorem d_M_recover_15 : decode b_M_recover 15 = .ok (.iconst 0, 1) := by decide +kernel
theorem d_M_recover_16 : decode b_M_recover 16 = .ok (.invokevirtual 78, 3) := by decide +kernel
theorem d_M_recover_19 : decode b_M_recover 19 = .ok (.istore_n 1, 1) := by decide +kernel
theorem d_M_recover_20 : decode b_M_recover 20 = .ok (.aload_n 0, 1) := by decide +kernel
theorem d_M_recover_21 : decode b_M_recover 21 = .ok (.iconst 1, 1) := by decide +kernel
theorem d_M_recover_22 : decode b_M_recover 22 = .ok (.invokevirtual 78, 3) := by decide +kernel
theorem d_M_recover_25 : decode b_M_recover 25 = .ok (.istore_n 2, 1) := by decide +kernel
theorem d_M_recover_26 : decode b_M_recover 26 = .ok (.iload_n 1, 1) := by decide +kernel
theorem d_M_recover_27 : decode b_M_recover 27 = .ok (.ifCond .ne 18, 3) := by decide +kernel
theorem d_M_recover_30 : decode b_M_recover 30 = .ok (.iload_n 2, 1) := by decide +kernel
theorem d_M_recover_31 : decode b_M_recover 31 = .ok (.ifCond .ne 14, 3) := by decide +kernel
theorem d_M_recover_34 : decode b_M_recover 34 = .ok (.aload_n 0, 1) := by decide +kernel
theorem d_M_recover_35 : decode b_M_recover 35 = .ok (.iconst 1, 1) := by decide +kernel
theorem d_M_recover_36 : decode b_M_recover 36 = .ok (.putfield 14, 3) := by decide +kernel
theorem d_M_recover_39 : decode b_M_recover 39 = .ok (.aload_n 0, 1) := by decide +kernel
theorem d_M_recover_40 : decode b_M_recover 40 = .ok (.invokevirtual 69, 3) := by decide +kernel
theorem d_M_recover_43 : decode b_M_recover 43 = .ok (.iconst (-1), 1) := by decide +kernel
theorem d_M_recover_44 : decode b_M_recover 44 = .ok (.ireturn, 1) := by decide +kernel
theorem d_M_recover_45 : decode b_M_recover 45 = .ok (.iload_n 1, 1) := by decide +kernel
theorem d_M_recover_46 : decode b_M_recover 46 = .ok (.ifCond .eq 32, 3) := by decide +kernel
theorem d_M_recover_49 : decode b_M_recover 49 = .ok (.iload_n 2, 1) := by decide +kernel
theorem d_M_recover_50 : decode b_M_recover 50 = .ok (.ifCond .eq 24, 3) := by decide +kernel
theorem d_M_recover_53 : decode b_M_recover 53 = .ok (.aload_n 0, 1) := by decide +kernel
theorem d_M_recover_54 : decode b_M_recover 54 = .ok (.getfield 8, 3) := by decide +kernel
theorem d_M_recover_57 : decode b_M_recover 57 = .ok (.iconst 4, 1) := by decide +kernel
theorem d_M_recover_58 : decode b_M_recover 58 = .ok (.invokestatic 42, 3) := by decide +kernel
theorem d_M_recover_61 : decode b_M_recover 61 = .ok (.aload_n 0, 1) := by decide +kernel
theorem d_M_recover_62 : decode b_M_recover 62 = .ok (.getfield 8, 3) := by decide +kernel
theorem d_M_recover_65 : decode b_M_recover 65 = .ok (.sipush 516, 3) := by decide +kernel
theorem d_M_recover_68 : decode b_M_recover 68 = .ok (.invokestatic 42, 3) := by decide +kernel
theorem d_M_recover_71 : decode b_M_recover 71 = .ok (.if_icmp .lt 7, 3) := by decide +kernel
theorem d_M_recover_74 : decode b_M_recover 74 = .ok (.iconst 0, 1) := by decide +kernel
theorem d_M_recover_75 : decode b_M_recover 75 = .ok (.goto 4, 3) := by decide +kernel
theorem d_M_recover_78 : decode b_M_recover 78 = .ok (.iconst 1, 1) := by decide +kernel
theorem d_M_recover_79 : decode b_M_recover 79 = .ok (.istore_n 3, 1) := by decide +kernel
theorem d_M_recover_80 : decode b_M_recover 80 = .ok (.aload_n 0, 1) := by decide +kernel
theorem d_M_recover_81 : decode b_M_recover 81 = .ok (.iconst 2, 1) := by decide +kernel
theorem d_M_recover_82 : decode b_M_recover 82 = .ok (.putfield 14, 3) := by decide +kernel
theorem d_M_recover_85 : decode b_M_recover 85 = .ok (.aload_n 0, 1) := by decide +kernel
theorem d_M_recover_86 : decode b_M_recover 86 = .ok (.aload_n 0, 1) := by decide +kernel
theorem d_M_recover_87 : decode b_M_recover 87 = .ok (.getfield 8, 3) := by decide +kernel
theorem d_M_recover_90 : decode b_M_recover 90 = .ok (.sipush 512, 3) := by decide +kernel
theorem d_M_recover_93 : decode b_M_recover 93 = .ok (.iload_n 3, 1) := by decide +kernel
theorem d_M_recover_94 : decode b_M_recover 94 = .ok (.imul, 1) := by decide +kernel
theorem d_M_recover_95 : decode b_M_recover 95 = .ok (.iconst 4, 1) := by decide +kernel
theorem d_M_recover_96 : decode b_M_recover 96 = .ok (.iadd, 1) := by decide +kernel
theorem d_M_recover_97 : decode b_M_recover 97 = .ok (.invokestatic 42, 3) := by decide +kernel
theorem d_M_recover_100 : decode b_M_recover 100 = .ok (.putfield 72, 3) := by decide +kernel
theorem d_M_recover_103 : decode b_M_recover 103 = .ok (.aload_n 0, 1) := by decide +kernel
theorem d_M_recover_104 : decode b_M_recover 104 = .ok (.aload_n 0, 1) := by decide +kernel
theorem d_M_recover_105 : decode b_M_recover 105 = .ok (.getfield 8, 3) := by decide +kernel
theorem d_M_recover_108 : decode b_M_recover 108 = .ok (.sipush 512, 3) := by decide +kernel
theorem d_M_recover_111 : decode b_M_recover 111 = .ok (.iload_n 3, 1) := by decide +kernel
theorem d_M_recover_112 : decode b_M_recover 112 = .ok (.imul, 1) := by decide +kernel
theorem d_M_recover_113 : decode b_M_recover 113 = .ok (.iconst 2, 1) := by decide +kernel
theorem d_M_recover_114 : decode b_M_recover 114 = .ok (.iadd, 1) := by decide +kernel
theorem d_M_recover_115 : decode b_M_recover 115 = .ok (.baload, 1) := by decide +kernel
theorem d_M_recover_116 : decode b_M_recover 116 = .ok (.putfield 50, 3) := by decide +kernel
theorem d_M_recover_119 : decode b_M_recover 119 = .ok (.aload_n 0, 1) := by decide +kernel
theorem d_M_recover_120 : decode b_M_recover 120 = .ok (.invokevirtual 82, 3) := by decide +kernel
theorem d_M_recover_123 : decode b_M_recover 123 = .ok (.aload_n 0, 1) := by decide +kernel
theorem d_M_recover_124 : decode b_M_recover 124 = .ok (.getfield 60, 3) := by decide +kernel
theorem d_M_recover_127 : decode b_M_recover 127 = .ok (.ireturn, 1) := by decide +kernel
theorem d_M_format_0 : decode b_M_format 0 = .ok (.aload_n 0, 1) := by decide +kernel
theorem d_M_format_1 : decode b_M_format 1 = .ok (.iconst 0, 1) := by decide +kernel
theorem d_M_format_2 : decode b_M_format 2 = .ok (.putfield 38, 3) := by decide +kernel
theorem d_M_format_5 : decode b_M_format 5 = .ok (.iconst 0, 1) := by decide +kernel
theorem d_M_format_6 : decode b_M_format 6 = .ok (.istore_n 1, 1) := by decide +kernel
theorem d_M_format_7 : decode b_M_format 7 = .ok (.iload_n 1, 1) := by decide +kernel
theorem d_M_format_8 : decode b_M_format 8 = .ok (.ldc 7, 2) := by decide +kernel
theorem d_M_format_10 : decode b_M_format 10 = .ok (.if_icmp .ge 16, 3) := by decide +kernel
theorem d_M_format_13 : decode b_M_format 13 = .ok (.aload_n 0, 1) := by decide +kernel
theorem d_M_format_14 : decode b_M_format 14 = .ok (.getfield 8, 3) := by decide +kernel
theorem d_M_format_17 : decode b_M_format 17 = .ok (.iload_n 1, 1) := by decide +kernel
theorem d_M_format_18 : decode b_M_format 18 = .ok (.iconst 0, 1) := by decide +kernel
theorem d_M_format_19 : decode b_M_format 19 = .ok (.bastore, 1) := by decide +kernel
theorem d_M_format_20 : decode b_M_format 20 = .ok (.iinc 1 1, 3) := by decide +kernel
theorem d_M_format_23 : decode b_M_format 23 = .ok (.goto (-16), 3) := by decide +kernel
theorem d_M_format_26 : decode b_M_format 26 = .ok (.aload_n 0, 1) := by decide +kernel
theorem d_M_format_27 : decode b_M_format 27 = .ok (.iconst 0, 1) := by decide +kernel
theorem d_M_format_28 : decode b_M_format 28 = .ok (.iconst 1, 1) := by decide +kernel
theorem d_M_format_29 : decode b_M_format 29 = .ok (.invokevirtual 85, 3) := by decide +kernel
theorem d_M_format_32 : decode b_M_format 32 = .ok (.iconst 0, 1) := by decide +kernel
theorem d_M_format_33 : decode b_M_format 33 = .ok (.istore_n 1, 1) := by decide +kernel
theorem d_M_format_34 : decode b_M_format 34 = .ok (.iload_n 1, 1) := by decide +kernel
theorem d_M_format_35 : decode b_M_format 35 = .ok (.bipush 12, 2) := by decide +kernel
theorem d_M_format_37 : decode b_M_format 37 = .ok (.if_icmp .ge 25, 3) := by decide +kernel
theorem d_M_format_40 : decode b_M_format 40 = .ok (.aload_n 0, 1) := by decide +kernel
theorem d_M_format_41 : decode b_M_format 41 = .ok (.getfield 8, 3) := by decide +kernel
theorem d_M_format_44 : decode b_M_format 44 = .ok (.sipush 512, 3) := by decide +kernel
theorem d_M_format_47 : decode b_M_format 47 = .ok (.iload_n 1, 1) := by decide +kernel
theorem d_M_format_48 : decode b_M_format 48 = .ok (.iadd, 1) := by decide +kernel
theorem d_M_format_49 : decode b_M_format 49 = .ok (.aload_n 0, 1) := by decide +kernel
theorem d_M_format_50 : decode b_M_format 50 = .ok (.getfield 35, 3) := by decide +kernel
theorem d_M_format_53 : decode b_M_format 53 = .ok (.iload_n 1, 1) := by decide +kernel
theorem d_M_format_54 : decode b_M_format 54 = .ok (.baload, 1) := by decide +kernel
theorem d_M_format_55 : decode b_M_format 55 = .ok (.bastore, 1) := by decide +kernel
theorem d_M_format_56 : decode b_M_format 56 = .ok (.iinc 1 1, 3) := by decide +kernel
theorem d_M_format_59 : decode b_M_format 59 = .ok (.goto (-25), 3) := by decide +kernel
theorem d_M_format_62 : decode b_M_format 62 = .ok (.aload_n 0, 1) := by decide +kernel
theorem d_M_format_63 : decode b_M_format 63 = .ok (.invokevirtual 89, 3) := by decide +kernel
theorem d_M_format_66 : decode b_M_format 66 = .ok (.istore_n 1, 1) := by decide +kernel
theorem d_M_format_67 : decode b_M_format 67 = .ok (.return_, 1) := by decide +kernel
theorem d_M_layHead_0 : decode b_M_layHead 0 = .ok (.iconst 0, 1) := by decide +kernel
theorem d_M_layHead_1 : decode b_M_layHead 1 = .ok (.istore_n 3, 1) := by decide +kernel
theorem d_M_layHead_2 : decode b_M_layHead 2 = .ok (.iload_n 3, 1) := by decide +kernel
theorem d_M_layHead_3 : decode b_M_layHead 3 = .ok (.sipush 512, 3) := by decide +kernel
theorem d_M_layHead_6 : decode b_M_layHead 6 = .ok (.if_icmp .ge 16, 3) := by decide +kernel
theorem d_M_layHead_9 : decode b_M_layHead 9 = .ok (.aload_n 0, 1) := by decide +kernel
theorem d_M_layHead_10 : decode b_M_layHead 10 = .ok (.getfield 35, 3) := by decide +kernel
theorem d_M_layHead_13 : decode b_M_layHead 13 = .ok (.iload_n 3, 1) := by decide +kernel
theorem d_M_layHead_14 : decode b_M_layHead 14 = .ok (.iconst 0, 1) := by decide +kernel
theorem d_M_layHead_15 : decode b_M_layHead 15 = .ok (.bastore, 1) := by decide +kernel
theorem d_M_layHead_16 : decode b_M_layHead 16 = .ok (.iinc 3 1, 3) := by decide +kernel
theorem d_M_layHead_19 : decode b_M_layHead 19 = .ok (.goto (-17), 3) := by decide +kernel
theorem d_M_layHead_22 : decode b_M_layHead 22 = .ok (.aload_n 0, 1) := by decide +kernel
theorem d_M_layHead_23 : decode b_M_layHead 23 = .ok (.getfield 35, 3) := by decide +kernel
theorem d_M_layHead_26 : decode b_M_layHead 26 = .ok (.iconst 0, 1) := by decide +kernel
theorem d_M_layHead_27 : decode b_M_layHead 27 = .ok (.bipush 74, 2) := by decide +kernel
theorem d_M_layHead_29 : decode b_M_layHead 29 = .ok (.bastore, 1) := by decide +kernel
theorem d_M_layHead_30 : decode b_M_layHead 30 = .ok (.aload_n 0, 1) := by decide +kernel
theorem d_M_layHead_31 : decode b_M_layHead 31 = .ok (.getfield 35, 3) := by decide +kernel
theorem d_M_layHead_34 : decode b_M_layHead 34 = .ok (.iconst 1, 1) := by decide +kernel
theorem d_M_layHead_35 : decode b_M_layHead 35 = .ok (.bipush 49, 2) := by decide +kernel
theorem d_M_layHead_37 : decode b_M_layHead 37 = .ok (.bastore, 1) := by decide +kernel
theorem d_M_layHead_38 : decode b_M_layHead 38 = .ok (.aload_n 0, 1) := by decide +kernel
theorem d_M_layHead_39 : decode b_M_layHead 39 = .ok (.getfield 35, 3) := by decide +kernel
theorem d_M_layHead_42 : decode b_M_layHead 42 = .ok (.iconst 2, 1) := by decide +kernel
theorem d_M_layHead_43 : decode b_M_layHead 43 = .ok (.iload_n 1, 1) := by decide +kernel
theorem d_M_layHead_44 : decode b_M_layHead 44 = .ok (.i2b, 1) := by decide +kernel
theorem d_M_layHead_45 : decode b_M_layHead 45 = .ok (.bastore, 1) := by decide +kernel
theorem d_M_layHead_46 : decode b_M_layHead 46 = .ok (.aload_n 0, 1) := by decide +kernel
theorem d_M_layHead_47 : decode b_M_layHead 47 = .ok (.getfield 35, 3) := by decide +kernel
theorem d_M_layHead_50 : decode b_M_layHead 50 = .ok (.iconst 4, 1) := by decide +kernel
theorem d_M_layHead_51 : decode b_M_layHead 51 = .ok (.iload_n 2, 1) := by decide +kernel
theorem d_M_layHead_52 : decode b_M_layHead 52 = .ok (.invokestatic 93, 3) := by decide +kernel
theorem d_M_layHead_55 : decode b_M_layHead 55 = .ok (.aload_n 0, 1) := by decide +kernel
theorem d_M_layHead_56 : decode b_M_layHead 56 = .ok (.getfield 35, 3) := by decide +kernel
theorem d_M_layHead_59 : decode b_M_layHead 59 = .ok (.bipush 8, 2) := by decide +kernel
theorem d_M_layHead_61 : decode b_M_layHead 61 = .ok (.aload_n 0, 1) := by decide +kernel
theorem d_M_layHead_62 : decode b_M_layHead 62 = .ok (.getfield 35, 3) := by decide +kernel
theorem d_M_layHead_65 : decode b_M_layHead 65 = .ok (.iconst 0, 1) := by decide +kernel
theorem d_M_layHead_66 : decode b_M_layHead 66 = .ok (.bipush 8, 2) := by decide +kernel
theorem d_M_layHead_68 : decode b_M_layHead 68 = .ok (.invokestatic 46, 3) := by decide +kernel
theorem d_M_layHead_71 : decode b_M_layHead 71 = .ok (.invokestatic 93, 3) := by decide +kernel
theorem d_M_layHead_74 : decode b_M_layHead 74 = .ok (.return_, 1) := by decide +kernel
theorem d_M_write_0 : decode b_M_write 0 = .ok (.aload_n 0, 1) := by decide +kernel
theorem d_M_write_1 : decode b_M_write 1 = .ok (.getfield 29, 3) := by decide +kernel
theorem d_M_write_4 : decode b_M_write 4 = .ok (.ifCond .ne 14, 3) := by decide +kernel
theorem d_M_write_7 : decode b_M_write 7 = .ok (.aload_n 0, 1) := by decide +kernel
theorem d_M_write_8 : decode b_M_write 8 = .ok (.iconst (-1), 1) := by decide +kernel
theorem d_M_write_9 : decode b_M_write 9 = .ok (.putfield 29, 3) := by decide +kernel
theorem d_M_write_12 : decode b_M_write 12 = .ok (.aload_n 0, 1) := by decide +kernel
theorem d_M_write_13 : decode b_M_write 13 = .ok (.invokevirtual 97, 3) := by decide +kernel
theorem d_M_write_16 : decode b_M_write 16 = .ok (.iconst 0, 1) := by decide +kernel
theorem d_M_write_17 : decode b_M_write 17 = .ok (.ireturn, 1) := by decide +kernel
theorem d_M_write_18 : decode b_M_write 18 = .ok (.aload_n 0, 1) := by decide +kernel
theorem d_M_write_19 : decode b_M_write 19 = .ok (.aload_n 0, 1) := by decide +kernel
theorem d_M_write_20 : decode b_M_write 20 = .ok (.getfield 29, 3) := by decide +kernel
theorem d_M_write_23 : decode b_M_write 23 = .ok (.ifCond .le 12, 3) := by decide +kernel
theorem d_M_write_26 : decode b_M_write 26 = .ok (.aload_n 0, 1) := by decide +kernel
theorem d_M_write_27 : decode b_M_write 27 = .ok (.getfield 29, 3) := by decide +kernel
theorem d_M_write_30 : decode b_M_write 30 = .ok (.iconst 1, 1) := by decide +kernel
theorem d_M_write_31 : decode b_M_write 31 = .ok (.isub, 1) := by decide +kernel
theorem d_M_write_32 : decode b_M_write 32 = .ok (.goto 7, 3) := by decide +kernel
theorem d_M_write_35 : decode b_M_write 35 = .ok (.aload_n 0, 1) := by decide +kernel
theorem d_M_write_36 : decode b_M_write 36 = .ok (.getfield 29, 3) := by decide +kernel
theorem d_M_write_39 : decode b_M_write 39 = .ok (.putfield 29, 3) := by decide +kernel
theorem d_M_write_42 : decode b_M_write 42 = .ok (.iconst 0, 1) := by decide +kernel
theorem d_M_write_43 : decode b_M_write 43 = .ok (.istore 4, 2) := by decide +kernel
theorem d_M_write_45 : decode b_M_write 45 = .ok (.iload 4, 2) := by decide +kernel
theorem d_M_write_47 : decode b_M_write 47 = .ok (.sipush 512, 3) := by decide +kernel
theorem d_M_write_50 : decode b_M_write 50 = .ok (.if_icmp .ge 28, 3) := by decide +kernel
theorem d_M_write_53 : decode b_M_write 53 = .ok (.aload_n 0, 1) := by decide +kernel
theorem d_M_write_54 : decode b_M_write 54 = .ok (.getfield 8, 3) := by decide +kernel
theorem d_M_write_57 : decode b_M_write 57 = .ok (.sipush 512, 3) := by decide +kernel
theorem d_M_write_60 : decode b_M_write 60 = .ok (.iload_n 1, 1) := by decide +kernel
theorem d_M_write_61 : decode b_M_write 61 = .ok (.imul, 1) := by decide +kernel
theorem d_M_write_62 : decode b_M_write 62 = .ok (.iload 4, 2) := by decide +kernel
theorem d_M_write_64 : decode b_M_write 64 = .ok (.iadd, 1) := by decide +kernel
theorem d_M_write_65 : decode b_M_write 65 = .ok (.aload_n 2, 1) := by decide +kernel
theorem d_M_write_66 : decode b_M_write 66 = .ok (.iload_n 3, 1) := by decide +kernel
theorem d_M_write_67 : decode b_M_write 67 = .ok (.iload 4, 2) := by decide +kernel
theorem d_M_write_69 : decode b_M_write 69 = .ok (.iadd, 1) := by decide +kernel
theorem d_M_write_70 : decode b_M_write 70 = .ok (.baload, 1) := by decide +kernel
theorem d_M_write_71 : decode b_M_write 71 = .ok (.bastore, 1) := by decide +kernel
theorem d_M_write_72 : decode b_M_write 72 = .ok (.iinc 4 1, 3) := by decide +kernel
theorem d_M_write_75 : decode b_M_write 75 = .ok (.goto (-30), 3) := by decide +kernel
theorem d_M_write_78 : decode b_M_write 78 = .ok (.aload_n 0, 1) := by decide +kernel
theorem d_M_write_79 : decode b_M_write 79 = .ok (.dup, 1) := by decide +kernel
theorem d_M_write_80 : decode b_M_write 80 = .ok (.getfield 100, 3) := by decide +kernel
theorem d_M_write_83 : decode b_M_write 83 = .ok (.iconst 1, 1) := by decide +kernel
theorem d_M_write_84 : decode b_M_write 84 = .ok (.iadd, 1) := by decide +kernel
theorem d_M_write_85 : decode b_M_write 85 = .ok (.putfield 100, 3) := by decide +kernel
theorem d_M_write_88 : decode b_M_write 88 = .ok (.iconst 1, 1) := by decide +kernel
theorem d_M_write_89 : decode b_M_write 89 = .ok (.ireturn, 1) := by decide +kernel
theorem d_M_give_0 : decode b_M_give 0 = .ok (.aload_n 0, 1) := by decide +kernel
theorem d_M_give_1 : decode b_M_give 1 = .ok (.iconst 0, 1) := by decide +kernel
theorem d_M_give_2 : decode b_M_give 2 = .ok (.putfield 38, 3) := by decide +kernel
theorem d_M_give_5 : decode b_M_give 5 = .ok (.iload_n 3, 1) := by decide +kernel
theorem d_M_give_6 : decode b_M_give 6 = .ok (.iconst 1, 1) := by decide +kernel
theorem d_M_give_7 : decode b_M_give 7 = .ok (.if_icmp .lt 21, 3) := by decide +kernel
theorem d_M_give_10 : decode b_M_give 10 = .ok (.iload_n 3, 1) := by decide +kernel
theorem d_M_give_11 : decode b_M_give 11 = .ok (.bipush 8, 2) := by decide +kernel
theorem d_M_give_13 : decode b_M_give 13 = .ok (.if_icmp .gt 15, 3) := by decide +kernel
theorem d_M_give_16 : decode b_M_give 16 = .ok (.aload_n 0, 1) := by decide +kernel
theorem d_M_give_17 : decode b_M_give 17 = .ok (.getfield 103, 3) := by decide +kernel
theorem d_M_give_20 : decode b_M_give 20 = .ok (.iload_n 3, 1) := by decide +kernel
theorem d_M_give_21 : decode b_M_give 21 = .ok (.iadd, 1) := by decide +kernel
theorem d_M_give_22 : decode b_M_give 22 = .ok (.sipush 1000, 3) := by decide +kernel
theorem d_M_give_25 : decode b_M_give 25 = .ok (.if_icmp .le 5, 3) := by decide +kernel
theorem d_M_give_28 : decode b_M_give 28 = .ok (.iconst 0, 1) := by decide +kernel
theorem d_M_give_29 : decode b_M_give 29 = .ok (.ireturn, 1) := by decide +kernel
theorem d_M_give_30 : decode b_M_give 30 = .ok (.iload_n 3, 1) := by decide +kernel
theorem d_M_give_31 : decode b_M_give 31 = .ok (.iconst 1, 1) := by decide +kernel
theorem d_M_give_32 : decode b_M_give 32 = .ok (.isub, 1) := by decide +kernel
theorem d_M_give_33 : decode b_M_give 33 = .ok (.istore 4, 2) := by decide +kernel
theorem d_M_give_35 : decode b_M_give 35 = .ok (.iload 4, 2) := by decide +kernel
theorem d_M_give_37 : decode b_M_give 37 = .ok (.ifCond .lt 37, 3) := by decide +kernel
theorem d_M_give_40 : decode b_M_give 40 = .ok (.aload_n 0, 1) := by decide +kernel
theorem d_M_give_41 : decode b_M_give 41 = .ok (.getfield 26, 3) := by decide +kernel
theorem d_M_give_44 : decode b_M_give 44 = .ok (.aload_n 0, 1) := by decide +kernel
theorem d_M_give_45 : decode b_M_give 45 = .ok (.getfield 103, 3) := by decide +kernel
theorem d_M_give_48 : decode b_M_give 48 = .ok (.lload_n 1, 1) := by decide +kernel
theorem d_M_give_49 : decode b_M_give 49 = .ok (.bipush 8, 2) := by decide +kernel
theorem d_M_give_51 : decode b_M_give 51 = .ok (.iload 4, 2) := by decide +kernel
theorem d_M_give_53 : decode b_M_give 53 = .ok (.imul, 1) := by decide +kernel
theorem d_M_give_54 : decode b_M_give 54 = .ok (.lshr, 1) := by decide +kernel
theorem d_M_give_55 : decode b_M_give 55 = .ok (.l2i, 1) := by decide +kernel
theorem d_M_give_56 : decode b_M_give 56 = .ok (.i2b, 1) := by decide +kernel
theorem d_M_give_57 : decode b_M_give 57 = .ok (.bastore, 1) := by decide +kernel
theorem d_M_give_58 : decode b_M_give 58 = .ok (.aload_n 0, 1) := by decide +kernel
theorem d_M_give_59 : decode b_M_give 59 = .ok (.dup, 1) := by decide +kernel
theorem d_M_give_60 : decode b_M_give 60 = .ok (.getfield 103, 3) := by decide +kernel
theorem d_M_give_63 : decode b_M_give 63 = .ok (.iconst 1, 1) := by decide +kernel
theorem d_M_give_64 : decode b_M_give 64 = .ok (.iadd, 1) := by decide +kernel
theorem d_M_give_65 : decode b_M_give 65 = .ok (.putfield 103, 3) := by decide +kernel
theorem d_M_give_68 : decode b_M_give 68 = .ok (.iinc 4 (-1), 3) := by decide +kernel
theorem d_M_give_71 : decode b_M_give 71 = .ok (.goto (-36), 3) := by decide +kernel
theorem d_M_give_74 : decode b_M_give 74 = .ok (.iconst 1, 1) := by decide +kernel
theorem d_M_give_75 : decode b_M_give 75 = .ok (.ireturn, 1) := by decide +kernel
theorem d_M_wipe_0 : decode b_M_wipe 0 = .ok (.aload_n 0, 1) := by decide +kernel
theorem d_M_wipe_1 : decode b_M_wipe 1 = .ok (.iconst 0, 1) := by decide +kernel
theorem d_M_wipe_2 : decode b_M_wipe 2 = .ok (.putfield 38, 3) := by decide +kernel
theorem d_M_wipe_5 : decode b_M_wipe 5 = .ok (.aload_n 0, 1) := by decide +kernel
theorem d_M_wipe_6 : decode b_M_wipe 6 = .ok (.iconst 0, 1) := by decide +kernel
theorem d_M_wipe_7 : decode b_M_wipe 7 = .ok (.putfield 103, 3) := by decide +kernel
theorem d_M_wipe_10 : decode b_M_wipe 10 = .ok (.return_, 1) := by decide +kernel
theorem d_M_lastBlock_0 : decode b_M_lastBlock 0 = .ok (.iload_n 0, 1) := by decide +kernel
theorem d_M_lastBlock_1 : decode b_M_lastBlock 1 = .ok (.iconst 2, 1) := by decide +kernel
theorem d_M_lastBlock_2 : decode b_M_lastBlock 2 = .ok (.iadd, 1) := by decide +kernel
theorem d_M_lastBlock_3 : decode b_M_lastBlock 3 = .ok (.sipush 15872, 3) := by decide +kernel
theorem d_M_lastBlock_6 : decode b_M_lastBlock 6 = .ok (.if_icmp .le 9, 3) := by decide +kernel
theorem d_M_lastBlock_9 : decode b_M_lastBlock 9 = .ok (.sipush 15871, 3) := by decide +kernel
theorem d_M_lastBlock_12 : decode b_M_lastBlock 12 = .ok (.goto 6, 3) := by decide +kernel
theorem d_M_lastBlock_15 : decode b_M_lastBlock 15 = .ok (.iload_n 0, 1) := by decide +kernel
theorem d_M_lastBlock_16 : decode b_M_lastBlock 16 = .ok (.iconst 1, 1) := by decide +kernel
theorem d_M_lastBlock_17 : decode b_M_lastBlock 17 = .ok (.iadd, 1) := by decide +kernel
theorem d_M_lastBlock_18 : decode b_M_lastBlock 18 = .ok (.istore_n 1, 1) := by decide +kernel
theorem d_M_lastBlock_19 : decode b_M_lastBlock 19 = .ok (.iload_n 1, 1) := by decide +kernel
theorem d_M_lastBlock_20 : decode b_M_lastBlock 20 = .ok (.sipush 512, 3) := by decide +kernel
theorem d_M_lastBlock_23 : decode b_M_lastBlock 23 = .ok (.idiv, 1) := by decide +kernel
theorem d_M_lastBlock_24 : decode b_M_lastBlock 24 = .ok (.ireturn, 1) := by decide +kernel
theorem d_M_append_0 : decode b_M_append 0 = .ok (.aload_n 0, 1) := by decide +kernel
theorem d_M_append_1 : decode b_M_append 1 = .ok (.aload_n 0, 1) := by decide +kernel
theorem d_M_append_2 : decode b_M_append 2 = .ok (.getfield 14, 3) := by decide +kernel
theorem d_M_append_5 : decode b_M_append 5 = .ok (.iconst 2, 1) := by decide +kernel
theorem d_M_append_6 : decode b_M_append 6 = .ok (.if_icmp .eq 7, 3) := by decide +kernel
theorem d_M_append_9 : decode b_M_append 9 = .ok (.iconst 1, 1) := by decide +kernel
theorem d_M_append_10 : decode b_M_append 10 = .ok (.goto 37, 3) := by decide +kernel
theorem d_M_append_13 : decode b_M_append 13 = .ok (.aload_n 0, 1) := by decide +kernel
theorem d_M_append_14 : decode b_M_append 14 = .ok (.getfield 103, 3) := by decide +kernel
theorem d_M_append_17 : decode b_M_append 17 = .ok (.ifCond .ne 7, 3) := by decide +kernel
theorem d_M_append_20 : decode b_M_append 20 = .ok (.iconst 2, 1) := by decide +kernel
theorem d_M_append_21 : decode b_M_append 21 = .ok (.goto 26, 3) := by decide +kernel
theorem d_M_append_24 : decode b_M_append 24 = .ok (.aload_n 0, 1) := by decide +kernel
theorem d_M_append_25 : decode b_M_append 25 = .ok (.getfield 63, 3) := by decide +kernel
theorem d_M_append_28 : decode b_M_append 28 = .ok (.aload_n 0, 1) := by decide +kernel
theorem d_M_append_29 : decode b_M_append 29 = .ok (.getfield 103, 3) := by decide +kernel
theorem d_M_append_32 : decode b_M_append 32 = .ok (.invokestatic 57, 3) := by decide +kernel
theorem d_M_append_35 : decode b_M_append 35 = .ok (.iadd, 1) := by decide +kernel
theorem d_M_append_36 : decode b_M_append 36 = .ok (.sipush 15872, 3) := by decide +kernel
theorem d_M_append_39 : decode b_M_append 39 = .ok (.if_icmp .le 7, 3) := by decide +kernel
theorem d_M_append_42 : decode b_M_append 42 = .ok (.iconst 3, 1) := by decide +kernel
theorem d_M_append_43 : decode b_M_append 43 = .ok (.goto 4, 3) := by decide +kernel
theorem d_M_append_46 : decode b_M_append 46 = .ok (.iconst 0, 1) := by decide +kernel
theorem d_M_append_47 : decode b_M_append 47 = .ok (.putfield 38, 3) := by decide +kernel
theorem d_M_append_50 : decode b_M_append 50 = .ok (.aload_n 0, 1) := by decide +kernel
theorem d_M_append_51 : decode b_M_append 51 = .ok (.getfield 38, 3) := by decide +kernel
theorem d_M_append_54 : decode b_M_append 54 = .ok (.ifCond .le 5, 3) := by decide +kernel
theorem d_M_append_57 : decode b_M_append 57 = .ok (.iconst 0, 1) := by decide +kernel
theorem d_M_append_58 : decode b_M_append 58 = .ok (.ireturn, 1) := by decide +kernel
theorem d_M_append_59 : decode b_M_append 59 = .ok (.iconst 0, 1) := by decide +kernel
theorem d_M_append_60 : decode b_M_append 60 = .ok (.istore_n 1, 1) := by decide +kernel
theorem d_M_append_61 : decode b_M_append 61 = .ok (.iload_n 1, 1) := by decide +kernel
theorem d_M_append_62 : decode b_M_append 62 = .ok (.sipush 15872, 3) := by decide +kernel
theorem d_M_append_65 : decode b_M_append 65 = .ok (.if_icmp .ge 41, 3) := by decide +kernel
theorem d_M_append_68 : decode b_M_append 68 = .ok (.aload_n 0, 1) := by decide +kernel
theorem d_M_append_69 : decode b_M_append 69 = .ok (.getfield 32, 3) := by decide +kernel
theorem d_M_append_72 : decode b_M_append 72 = .ok (.iload_n 1, 1) := by decide +kernel
theorem d_M_append_73 : decode b_M_append 73 = .ok (.iload_n 1, 1) := by decide +kernel
theorem d_M_append_74 : decode b_M_append 74 = .ok (.aload_n 0, 1) := by decide +kernel
theorem d_M_append_75 : decode b_M_append 75 = .ok (.getfield 63, 3) := by decide +kernel
theorem d_M_append_78 : decode b_M_append 78 = .ok (.if_icmp .ge 20, 3) := by decide +kernel
theorem d_M_append_81 : decode b_M_append 81 = .ok (.aload_n 0, 1) := by decide +kernel
theorem d_M_append_82 : decode b_M_append 82 = .ok (.getfield 8, 3) := by decide +kernel
theorem d_M_append_85 : decode b_M_append 85 = .ok (.aload_n 0, 1) := by decide +kernel
theorem d_M_append_86 : decode b_M_append 86 = .ok (.getfield 50, 3) := by decide +kernel
theorem d_M_append_89 : decode b_M_append 89 = .ok (.invokestatic 53, 3) := by decide +kernel
theorem d_M_append_92 : decode b_M_append 92 = .ok (.iload_n 1, 1) := by decide +kernel
theorem d_M_append_93 : decode b_M_append 93 = .ok (.iadd, 1) := by decide +kernel
theorem d_M_append_94 : decode b_M_append 94 = .ok (.baload, 1) := by decide +kernel
theorem d_M_append_95 : decode b_M_append 95 = .ok (.goto 4, 3) := by decide +kernel
theorem d_M_append_98 : decode b_M_append 98 = .ok (.iconst 0, 1) := by decide +kernel
theorem d_M_append_99 : decode b_M_append 99 = .ok (.bastore, 1) := by decide +kernel
theorem d_M_append_100 : decode b_M_append 100 = .ok (.iinc 1 1, 3) := by decide +kernel
theorem d_M_append_103 : decode b_M_append 103 = .ok (.goto (-42), 3) := by decide +kernel
theorem d_M_append_106 : decode b_M_append 106 = .ok (.aload_n 0, 1) := by decide +kernel
theorem d_M_append_107 : decode b_M_append 107 = .ok (.getfield 32, 3) := by decide +kernel
theorem d_M_append_110 : decode b_M_append 110 = .ok (.aload_n 0, 1) := by decide +kernel
theorem d_M_append_111 : decode b_M_append 111 = .ok (.getfield 63, 3) := by decide +kernel
theorem d_M_append_114 : decode b_M_append 114 = .ok (.aload_n 0, 1) := by decide +kernel
theorem d_M_append_115 : decode b_M_append 115 = .ok (.getfield 103, 3) := by decide +kernel
theorem d_M_append_118 : decode b_M_append 118 = .ok (.i2b, 1) := by decide +kernel
theorem d_M_append_119 : decode b_M_append 119 = .ok (.bastore, 1) := by decide +kernel
theorem d_M_append_120 : decode b_M_append 120 = .ok (.aload_n 0, 1) := by decide +kernel
theorem d_M_append_121 : decode b_M_append 121 = .ok (.getfield 32, 3) := by decide +kernel
theorem d_M_append_124 : decode b_M_append 124 = .ok (.aload_n 0, 1) := by decide +kernel
theorem d_M_append_125 : decode b_M_append 125 = .ok (.getfield 63, 3) := by decide +kernel
theorem d_M_append_128 : decode b_M_append 128 = .ok (.iconst 1, 1) := by decide +kernel
theorem d_M_append_129 : decode b_M_append 129 = .ok (.iadd, 1) := by decide +kernel
theorem d_M_append_130 : decode b_M_append 130 = .ok (.aload_n 0, 1) := by decide +kernel
theorem d_M_append_131 : decode b_M_append 131 = .ok (.getfield 103, 3) := by decide +kernel
theorem d_M_append_134 : decode b_M_append 134 = .ok (.bipush 8, 2) := by decide +kernel
theorem d_M_append_136 : decode b_M_append 136 = .ok (.ishr, 1) := by decide +kernel
theorem d_M_append_137 : decode b_M_append 137 = .ok (.i2b, 1) := by decide +kernel
theorem d_M_append_138 : decode b_M_append 138 = .ok (.bastore, 1) := by decide +kernel
theorem d_M_append_139 : decode b_M_append 139 = .ok (.iconst 0, 1) := by decide +kernel
theorem d_M_append_140 : decode b_M_append 140 = .ok (.istore_n 1, 1) := by decide +kernel
theorem d_M_append_141 : decode b_M_append 141 = .ok (.iload_n 1, 1) := by decide +kernel
theorem d_M_append_142 : decode b_M_append 142 = .ok (.aload_n 0, 1) := by decide +kernel
theorem d_M_append_143 : decode b_M_append 143 = .ok (.getfield 103, 3) := by decide +kernel
theorem d_M_append_146 : decode b_M_append 146 = .ok (.if_icmp .ge 28, 3) := by decide +kernel
theorem d_M_append_149 : decode b_M_append 149 = .ok (.aload_n 0, 1) := by decide +kernel
theorem d_M_append_150 : decode b_M_append 150 = .ok (.getfield 32, 3) := by decide +kernel
theorem d_M_append_153 : decode b_M_append 153 = .ok (.aload_n 0, 1) := by decide +kernel
theorem d_M_append_154 : decode b_M_append 154 = .ok (.getfield 63, 3) := by decide +kernel
theorem d_M_append_157 : decode b_M_append 157 = .ok (.iconst 2, 1) := by decide +kernel
theorem d_M_append_158 : decode b_M_append 158 = .ok (.iadd, 1) := by decide +kernel
theorem d_M_append_159 : decode b_M_append 159 = .ok (.iload_n 1, 1) := by decide +kernel
theorem d_M_append_160 : decode b_M_append 160 = .ok (.iadd, 1) := by decide +kernel
theorem d_M_append_161 : decode b_M_append 161 = .ok (.aload_n 0, 1) := by decide +kernel
theorem d_M_append_162 : decode b_M_append 162 = .ok (.getfield 26, 3) := by decide +kernel
theorem d_M_append_165 : decode b_M_append 165 = .ok (.iload_n 1, 1) := by decide +kernel
theorem d_M_append_166 : decode b_M_append 166 = .ok (.baload, 1) := by decide +kernel
theorem d_M_append_167 : decode b_M_append 167 = .ok (.bastore, 1) := by decide +kernel
theorem d_M_append_168 : decode b_M_append 168 = .ok (.iinc 1 1, 3) := by decide +kernel
theorem d_M_append_171 : decode b_M_append 171 = .ok (.goto (-30), 3) := by decide +kernel
theorem d_M_append_174 : decode b_M_append 174 = .ok (.aload_n 0, 1) := by decide +kernel
theorem d_M_append_175 : decode b_M_append 175 = .ok (.getfield 32, 3) := by decide +kernel
theorem d_M_append_178 : decode b_M_append 178 = .ok (.aload_n 0, 1) := by decide +kernel
theorem d_M_append_179 : decode b_M_append 179 = .ok (.getfield 63, 3) := by decide +kernel
theorem d_M_append_182 : decode b_M_append 182 = .ok (.iconst 2, 1) := by decide +kernel
theorem d_M_append_183 : decode b_M_append 183 = .ok (.iadd, 1) := by decide +kernel
theorem d_M_append_184 : decode b_M_append 184 = .ok (.aload_n 0, 1) := by decide +kernel
theorem d_M_append_185 : decode b_M_append 185 = .ok (.getfield 103, 3) := by decide +kernel
theorem d_M_append_188 : decode b_M_append 188 = .ok (.iadd, 1) := by decide +kernel
theorem d_M_append_189 : decode b_M_append 189 = .ok (.aload_n 0, 1) := by decide +kernel
theorem d_M_append_190 : decode b_M_append 190 = .ok (.getfield 32, 3) := by decide +kernel
theorem d_M_append_193 : decode b_M_append 193 = .ok (.aload_n 0, 1) := by decide +kernel
theorem d_M_append_194 : decode b_M_append 194 = .ok (.getfield 63, 3) := by decide +kernel
theorem d_M_append_197 : decode b_M_append 197 = .ok (.aload_n 0, 1) := by decide +kernel
theorem d_M_append_198 : decode b_M_append 198 = .ok (.getfield 63, 3) := by decide +kernel
theorem d_M_append_201 : decode b_M_append 201 = .ok (.iconst 2, 1) := by decide +kernel
theorem d_M_append_202 : decode b_M_append 202 = .ok (.iadd, 1) := by decide +kernel
theorem d_M_append_203 : decode b_M_append 203 = .ok (.aload_n 0, 1) := by decide +kernel
theorem d_M_append_204 : decode b_M_append 204 = .ok (.getfield 103, 3) := by decide +kernel
theorem d_M_append_207 : decode b_M_append 207 = .ok (.iadd, 1) := by decide +kernel
theorem d_M_append_208 : decode b_M_append 208 = .ok (.invokestatic 46, 3) := by decide +kernel
theorem d_M_append_211 : decode b_M_append 211 = .ok (.invokestatic 93, 3) := by decide +kernel
theorem d_M_append_214 : decode b_M_append 214 = .ok (.aload_n 0, 1) := by decide +kernel
theorem d_M_append_215 : decode b_M_append 215 = .ok (.getfield 63, 3) := by decide +kernel
theorem d_M_append_218 : decode b_M_append 218 = .ok (.sipush 512, 3) := by decide +kernel
theorem d_M_append_221 : decode b_M_append 221 = .ok (.idiv, 1) := by decide +kernel
theorem d_M_append_222 : decode b_M_append 222 = .ok (.istore_n 1, 1) := by decide +kernel
theorem d_M_append_223 : decode b_M_append 223 = .ok (.aload_n 0, 1) := by decide +kernel
theorem d_M_append_224 : decode b_M_append 224 = .ok (.getfield 63, 3) := by decide +kernel
theorem d_M_append_227 : decode b_M_append 227 = .ok (.aload_n 0, 1) := by decide +kernel
theorem d_M_append_228 : decode b_M_append 228 = .ok (.getfield 103, 3) := by decide +kernel
theorem d_M_append_231 : decode b_M_append 231 = .ok (.invokestatic 57, 3) := by decide +kernel
theorem d_M_append_234 : decode b_M_append 234 = .ok (.iadd, 1) := by decide +kernel
theorem d_M_append_235 : decode b_M_append 235 = .ok (.invokestatic 106, 3) := by decide +kernel
theorem d_M_append_238 : decode b_M_append 238 = .ok (.istore_n 2, 1) := by decide +kernel
theorem d_M_append_239 : decode b_M_append 239 = .ok (.aload_n 0, 1) := by decide +kernel
theorem d_M_append_240 : decode b_M_append 240 = .ok (.iconst 0, 1) := by decide +kernel
theorem d_M_append_241 : decode b_M_append 241 = .ok (.putfield 103, 3) := by decide +kernel
theorem d_M_append_244 : decode b_M_append 244 = .ok (.aload_n 0, 1) := by decide +kernel
theorem d_M_append_245 : decode b_M_append 245 = .ok (.getfield 60, 3) := by decide +kernel
theorem d_M_append_248 : decode b_M_append 248 = .ok (.istore_n 3, 1) := by decide +kernel
theorem d_M_append_249 : decode b_M_append 249 = .ok (.aload_n 0, 1) := by decide +kernel
theorem d_M_append_250 : decode b_M_append 250 = .ok (.getfield 50, 3) := by decide +kernel
theorem d_M_append_253 : decode b_M_append 253 = .ok (.invokestatic 53, 3) := by decide +kernel
theorem d_M_append_256 : decode b_M_append 256 = .ok (.sipush 512, 3) := by decide +kernel
theorem d_M_append_259 : decode b_M_append 259 = .ok (.idiv, 1) := by decide +kernel
theorem d_M_append_260 : decode b_M_append 260 = .ok (.istore 4, 2) := by decide +kernel
theorem d_M_append_262 : decode b_M_append 262 = .ok (.iload_n 2, 1) := by decide +kernel
theorem d_M_append_263 : decode b_M_append 263 = .ok (.istore 5, 2) := by decide +kernel
theorem d_M_append_265 : decode b_M_append 265 = .ok (.iload 5, 2) := by decide +kernel
theorem d_M_append_267 : decode b_M_append 267 = .ok (.iload_n 1, 1) := by decide +kernel
theorem d_M_append_268 : decode b_M_append 268 = .ok (.if_icmp .lt 33, 3) := by decide +kernel
theorem d_M_append_271 : decode b_M_append 271 = .ok (.aload_n 0, 1) := by decide +kernel
theorem d_M_append_272 : decode b_M_append 272 = .ok (.iload 4, 2) := by decide +kernel
theorem d_M_append_274 : decode b_M_append 274 = .ok (.iload 5, 2) := by decide +kernel
theorem d_M_append_276 : decode b_M_append 276 = .ok (.iadd, 1) := by decide +kernel
theorem d_M_append_277 : decode b_M_append 277 = .ok (.aload_n 0, 1) := by decide +kernel
theorem d_M_append_278 : decode b_M_append 278 = .ok (.getfield 32, 3) := by decide +kernel
theorem d_M_append_281 : decode b_M_append 281 = .ok (.sipush 512, 3) := by decide +kernel
theorem d_M_append_284 : decode b_M_append 284 = .ok (.iload 5, 2) := by decide +kernel
theorem d_M_append_286 : decode b_M_append 286 = .ok (.imul, 1) := by decide +kernel
theorem d_M_append_287 : decode b_M_append 287 = .ok (.invokevirtual 109, 3) := by decide +kernel
theorem d_M_append_290 : decode b_M_append 290 = .ok (.ifCond .ne 5, 3) := by decide +kernel
theorem d_M_append_293 : decode b_M_append 293 = .ok (.iconst (-1), 1) := by decide +kernel
theorem d_M_append_294 : decode b_M_append 294 = .ok (.ireturn, 1) := by decide +kernel
theorem d_M_append_295 : decode b_M_append 295 = .ok (.iinc 5 (-1), 3) := by decide +kernel
theorem d_M_append_298 : decode b_M_append 298 = .ok (.goto (-33), 3) := by decide +kernel
theorem d_M_append_301 : decode b_M_append 301 = .ok (.aload_n 0, 1) := by decide +kernel
theorem d_M_append_302 : decode b_M_append 302 = .ok (.invokevirtual 82, 3) := by decide +kernel
theorem d_M_append_305 : decode b_M_append 305 = .ok (.iload_n 3, 1) := by decide +kernel
theorem d_M_append_306 : decode b_M_append 306 = .ok (.ireturn, 1) := by decide +kernel
theorem d_M_mark_0 : decode b_M_mark 0 = .ok (.aload_n 0, 1) := by decide +kernel
theorem d_M_mark_1 : decode b_M_mark 1 = .ok (.iconst 0, 1) := by decide +kernel
theorem d_M_mark_2 : decode b_M_mark 2 = .ok (.putfield 38, 3) := by decide +kernel
theorem d_M_mark_5 : decode b_M_mark 5 = .ok (.iload_n 1, 1) := by decide +kernel
theorem d_M_mark_6 : decode b_M_mark 6 = .ok (.ifCond .lt 11, 3) := by decide +kernel
theorem d_M_mark_9 : decode b_M_mark 9 = .ok (.iload_n 1, 1) := by decide +kernel
theorem d_M_mark_10 : decode b_M_mark 10 = .ok (.aload_n 0, 1) := by decide +kernel
theorem d_M_mark_11 : decode b_M_mark 11 = .ok (.getfield 60, 3) := by decide +kernel
theorem d_M_mark_14 : decode b_M_mark 14 = .ok (.if_icmp .lt 5, 3) := by decide +kernel
theorem d_M_mark_17 : decode b_M_mark 17 = .ok (.iconst 0, 1) := by decide +kernel
theorem d_M_mark_18 : decode b_M_mark 18 = .ok (.ireturn, 1) := by decide +kernel
theorem d_M_mark_19 : decode b_M_mark 19 = .ok (.aload_n 0, 1) := by decide +kernel
theorem d_M_mark_20 : decode b_M_mark 20 = .ok (.getfield 22, 3) := by decide +kernel
theorem d_M_mark_23 : decode b_M_mark 23 = .ok (.iload_n 1, 1) := by decide +kernel
theorem d_M_mark_24 : decode b_M_mark 24 = .ok (.iload_n 2, 1) := by decide +kernel
theorem d_M_mark_25 : decode b_M_mark 25 = .ok (.bastore, 1) := by decide +kernel
theorem d_M_mark_26 : decode b_M_mark 26 = .ok (.iconst 1, 1) := by decide +kernel
theorem d_M_mark_27 : decode b_M_mark 27 = .ok (.ireturn, 1) := by decide +kernel
theorem d_M_lengthOf_0 : decode b_M_lengthOf 0 = .ok (.aload_n 0, 1) := by decide +kernel
theorem d_M_lengthOf_1 : decode b_M_lengthOf 1 = .ok (.getfield 50, 3) := by decide +kernel
theorem d_M_lengthOf_4 : decode b_M_lengthOf 4 = .ok (.invokestatic 53, 3) := by decide +kernel
theorem d_M_lengthOf_7 : decode b_M_lengthOf 7 = .ok (.aload_n 0, 1) := by decide +kernel
theorem d_M_lengthOf_8 : decode b_M_lengthOf 8 = .ok (.getfield 18, 3) := by decide +kernel
theorem d_M_lengthOf_11 : decode b_M_lengthOf 11 = .ok (.iload_n 1, 1) := by decide +kernel
theorem d_M_lengthOf_12 : decode b_M_lengthOf 12 = .ok (.iaload, 1) := by decide +kernel
theorem d_M_lengthOf_13 : decode b_M_lengthOf 13 = .ok (.iadd, 1) := by decide +kernel
theorem d_M_lengthOf_14 : decode b_M_lengthOf 14 = .ok (.istore_n 2, 1) := by decide +kernel
theorem d_M_lengthOf_15 : decode b_M_lengthOf 15 = .ok (.aload_n 0, 1) := by decide +kernel
theorem d_M_lengthOf_16 : decode b_M_lengthOf 16 = .ok (.getfield 8, 3) := by decide +kernel
theorem d_M_lengthOf_19 : decode b_M_lengthOf 19 = .ok (.iload_n 2, 1) := by decide +kernel
theorem d_M_lengthOf_20 : decode b_M_lengthOf 20 = .ok (.baload, 1) := by decide +kernel
theorem d_M_lengthOf_21 : decode b_M_lengthOf 21 = .ok (.sipush 255, 3) := by decide +kernel
theorem d_M_lengthOf_24 : decode b_M_lengthOf 24 = .ok (.iand, 1) := by decide +kernel
theorem d_M_lengthOf_25 : decode b_M_lengthOf 25 = .ok (.sipush 256, 3) := by decide +kernel
theorem d_M_lengthOf_28 : decode b_M_lengthOf 28 = .ok (.aload_n 0, 1) := by decide +kernel
theorem d_M_lengthOf_29 : decode b_M_lengthOf 29 = .ok (.getfield 8, 3) := by decide +kernel
theorem d_M_lengthOf_32 : decode b_M_lengthOf 32 = .ok (.iload_n 2, 1) := by decide +kernel
theorem d_M_lengthOf_33 : decode b_M_lengthOf 33 = .ok (.iconst 1, 1) := by decide +kernel
theorem d_M_lengthOf_34 : decode b_M_lengthOf 34 = .ok (.iadd, 1) := by decide +kernel
theorem d_M_lengthOf_35 : decode b_M_lengthOf 35 = .ok (.baload, 1) := by decide +kernel
theorem d_M_lengthOf_36 : decode b_M_lengthOf 36 = .ok (.sipush 255, 3) := by decide +kernel
theorem d_M_lengthOf_39 : decode b_M_lengthOf 39 = .ok (.iand, 1) := by decide +kernel
theorem d_M_lengthOf_40 : decode b_M_lengthOf 40 = .ok (.imul, 1) := by decide +kernel
theorem d_M_lengthOf_41 : decode b_M_lengthOf 41 = .ok (.iadd, 1) := by decide +kernel
theorem d_M_lengthOf_42 : decode b_M_lengthOf 42 = .ok (.ireturn, 1) := by decide +kernel
theorem d_M_compact_0 : decode b_M_compact 0 = .ok (.aload_n 0, 1) := by decide +kernel
theorem d_M_compact_1 : decode b_M_compact 1 = .ok (.aload_n 0, 1) := by decide +kernel
theorem d_M_compact_2 : decode b_M_compact 2 = .ok (.getfield 14, 3) := by decide +kernel
theorem d_M_compact_5 : decode b_M_compact 5 = .ok (.iconst 2, 1) := by decide +kernel
theorem d_M_compact_6 : decode b_M_compact 6 = .ok (.if_icmp .eq 7, 3) := by decide +kernel
theorem d_M_compact_9 : decode b_M_compact 9 = .ok (.iconst 1, 1) := by decide +kernel
theorem d_M_compact_10 : decode b_M_compact 10 = .ok (.goto 17, 3) := by decide +kernel
theorem d_M_compact_13 : decode b_M_compact 13 = .ok (.aload_n 0, 1) := by decide +kernel
theorem d_M_compact_14 : decode b_M_compact 14 = .ok (.getfield 72, 3) := by decide +kernel
theorem d_M_compact_17 : decode b_M_compact 17 = .ok (.ldc 113, 2) := by decide +kernel
theorem d_M_compact_19 : decode b_M_compact 19 = .ok (.if_icmp .ne 7, 3) := by decide +kernel
theorem d_M_compact_22 : decode b_M_compact 22 = .ok (.iconst 2, 1) := by decide +kernel
theorem d_M_compact_23 : decode b_M_compact 23 = .ok (.goto 4, 3) := by decide +kernel
theorem d_M_compact_26 : decode b_M_compact 26 = .ok (.iconst 0, 1) := by decide +kernel
theorem d_M_compact_27 : decode b_M_compact 27 = .ok (.putfield 38, 3) := by decide +kernel
theorem d_M_compact_30 : decode b_M_compact 30 = .ok (.aload_n 0, 1) := by decide +kernel
theorem d_M_compact_31 : decode b_M_compact 31 = .ok (.getfield 38, 3) := by decide +kernel
theorem d_M_compact_34 : decode b_M_compact 34 = .ok (.ifCond .le 5, 3) := by decide +kernel
theorem d_M_compact_37 : decode b_M_compact 37 = .ok (.iconst 0, 1) := by decide +kernel
theorem d_M_compact_38 : decode b_M_compact 38 = .ok (.ireturn, 1) := by decide +kernel
theorem d_M_compact_39 : decode b_M_compact 39 = .ok (.iconst 0, 1) := by decide +kernel
theorem d_M_compact_40 : decode b_M_compact 40 = .ok (.istore_n 1, 1) := by decide +kernel
theorem d_M_compact_41 : decode b_M_compact 41 = .ok (.iload_n 1, 1) := by decide +kernel
theorem d_M_compact_42 : decode b_M_compact 42 = .ok (.sipush 15872, 3) := by decide +kernel
theorem d_M_compact_45 : decode b_M_compact 45 = .ok (.if_icmp .ge 16, 3) := by decide +kernel
theorem d_M_compact_48 : decode b_M_compact 48 = .ok (.aload_n 0, 1) := by decide +kernel
theorem d_M_compact_49 : decode b_M_compact 49 = .ok (.getfield 32, 3) := by decide +kernel
theorem d_M_compact_52 : decode b_M_compact 52 = .ok (.iload_n 1, 1) := by decide +kernel
theorem d_M_compact_53 : decode b_M_compact 53 = .ok (.iconst 0, 1) := by decide +kernel
theorem d_M_compact_54 : decode b_M_compact 54 = .ok (.bastore, 1) := by decide +kernel
theorem d_M_compact_55 : decode b_M_compact 55 = .ok (.iinc 1 1, 3) := by decide +kernel
theorem d_M_compact_58 : decode b_M_compact 58 = .ok (.goto (-17), 3) := by decide +kernel
theorem d_M_compact_61 : decode b_M_compact 61 = .ok (.iconst 0, 1) := by decide +kernel
theorem d_M_compact_62 : decode b_M_compact 62 = .ok (.istore_n 1, 1) := by decide +kernel
theorem d_M_compact_63 : decode b_M_compact 63 = .ok (.iconst 0, 1) := by decide +kernel
theorem d_M_compact_64 : decode b_M_compact 64 = .ok (.istore_n 2, 1) := by decide +kernel
theorem d_M_compact_65 : decode b_M_compact 65 = .ok (.iload_n 2, 1) := by decide +kernel
theorem d_M_compact_66 : decode b_M_compact 66 = .ok (.aload_n 0, 1) := by decide +kernel
theorem d_M_compact_67 : decode b_M_compact 67 = .ok (.getfield 60, 3) := by decide +kernel
theorem d_M_compact_70 : decode b_M_compact 70 = .ok (.if_icmp .ge 106, 3) := by decide +kernel
theorem d_M_compact_73 : decode b_M_compact 73 = .ok (.aload_n 0, 1) := by decide +kernel
theorem d_M_compact_74 : decode b_M_compact 74 = .ok (.iload_n 2, 1) := by decide +kernel
theorem d_M_compact_75 : decode b_M_compact 75 = .ok (.invokevirtual 114, 3) := by decide +kernel
theorem d_M_compact_78 : decode b_M_compact 78 = .ok (.istore_n 3, 1) := by decide +kernel
theorem d_M_compact_79 : decode b_M_compact 79 = .ok (.iconst 0, 1) := by decide +kernel
theorem d_M_compact_80 : decode b_M_compact 80 = .ok (.istore 4, 2) := by decide +kernel
theorem d_M_compact_82 : decode b_M_compact 82 = .ok (.iload 4, 2) := by decide +kernel
theorem d_M_compact_84 : decode b_M_compact 84 = .ok (.iload_n 3, 1) := by decide +kernel
theorem d_M_compact_85 : decode b_M_compact 85 = .ok (.invokestatic 57, 3) := by decide +kernel
theorem d_M_compact_88 : decode b_M_compact 88 = .ok (.if_icmp .ge 62, 3) := by decide +kernel
theorem d_M_compact_91 : decode b_M_compact 91 = .ok (.aload_n 0, 1) := by decide +kernel
theorem d_M_compact_92 : decode b_M_compact 92 = .ok (.getfield 22, 3) := by decide +kernel
theorem d_M_compact_95 : decode b_M_compact 95 = .ok (.iload_n 2, 1) := by decide +kernel
theorem d_M_compact_96 : decode b_M_compact 96 = .ok (.baload, 1) := by decide +kernel
theorem d_M_compact_97 : decode b_M_compact 97 = .ok (.ifCond .ne 53, 3) := by decide +kernel
theorem d_M_compact_100 : decode b_M_compact 100 = .ok (.aload_n 0, 1) := by decide +kernel
theorem d_M_compact_101 : decode b_M_compact 101 = .ok (.getfield 32, 3) := by decide +kernel
theorem d_M_compact_104 : decode b_M_compact 104 = .ok (.iload_n 1, 1) := by decide +kernel
theorem d_M_compact_105 : decode b_M_compact 105 = .ok (.iload 4, 2) := by decide +kernel
theorem d_M_compact_107 : decode b_M_compact 107 = .ok (.iadd, 1) := by decide +kernel
theorem d_M_compact_108 : decode b_M_compact 108 = .ok (.iload 4, 2) := by decide +kernel
theorem d_M_compact_110 : decode b_M_compact 110 = .ok (.bipush 6, 2) := by decide +kernel
theorem d_M_compact_112 : decode b_M_compact 112 = .ok (.iload_n 3, 1) := by decide +kernel
theorem d_M_compact_113 : decode b_M_compact 113 = .ok (.iadd, 1) := by decide +kernel
theorem d_M_compact_114 : decode b_M_compact 114 = .ok (.if_icmp .ge 28, 3) := by decide +kernel
theorem d_M_compact_117 : decode b_M_compact 117 = .ok (.aload_n 0, 1) := by decide +kernel
theorem d_M_compact_118 : decode b_M_compact 118 = .ok (.getfield 8, 3) := by decide +kernel
theorem d_M_compact_121 : decode b_M_compact 121 = .ok (.aload_n 0, 1) := by decide +kernel
theorem d_M_compact_122 : decode b_M_compact 122 = .ok (.getfield 50, 3) := by decide +kernel
theorem d_M_compact_125 : decode b_M_compact 125 = .ok (.invokestatic 53, 3) := by decide +kernel
theorem d_M_compact_128 : decode b_M_compact 128 = .ok (.aload_n 0, 1) := by decide +kernel
theorem d_M_compact_129 : decode b_M_compact 129 = .ok (.getfield 18, 3) := by decide +kernel
theorem d_M_compact_132 : decode b_M_compact 132 = .ok (.iload_n 2, 1) := by decide +kernel
theorem d_M_compact_133 : decode b_M_compact 133 = .ok (.iaload, 1) := by decide +kernel
theorem d_M_compact_134 : decode b_M_compact 134 = .ok (.iadd, 1) := by decide +kernel
theorem d_M_compact_135 : decode b_M_compact 135 = .ok (.iload 4, 2) := by decide +kernel
theorem d_M_compact_137 : decode b_M_compact 137 = .ok (.iadd, 1) := by decide +kernel
theorem d_M_compact_138 : decode b_M_compact 138 = .ok (.baload, 1) := by decide +kernel
theorem d_M_compact_139 : decode b_M_compact 139 = .ok (.goto 4, 3) := by decide +kernel
theorem d_M_compact_142 : decode b_M_compact 142 = .ok (.iconst 0, 1) := by decide +kernel
theorem d_M_compact_143 : decode b_M_compact 143 = .ok (.bastore, 1) := by decide +kernel
theorem d_M_compact_144 : decode b_M_compact 144 = .ok (.iinc 4 1, 3) := by decide +kernel
theorem d_M_compact_147 : decode b_M_compact 147 = .ok (.goto (-65), 3) := by decide +kernel
theorem d_M_compact_150 : decode b_M_compact 150 = .ok (.iload_n 1, 1) := by decide +kernel
theorem d_M_compact_151 : decode b_M_compact 151 = .ok (.aload_n 0, 1) := by decide +kernel
theorem d_M_compact_152 : decode b_M_compact 152 = .ok (.getfield 22, 3) := by decide +kernel
theorem d_M_compact_155 : decode b_M_compact 155 = .ok (.iload_n 2, 1) := by decide +kernel
theorem d_M_compact_156 : decode b_M_compact 156 = .ok (.baload, 1) := by decide +kernel
theorem d_M_compact_157 : decode b_M_compact 157 = .ok (.ifCond .eq 7, 3) := by decide +kernel
theorem d_M_compact_160 : decode b_M_compact 160 = .ok (.iconst 0, 1) := by decide +kernel
theorem d_M_compact_161 : decode b_M_compact 161 = .ok (.goto 7, 3) := by decide +kernel
theorem d_M_compact_164 : decode b_M_compact 164 = .ok (.iload_n 3, 1) := by decide +kernel
theorem d_M_compact_165 : decode b_M_compact 165 = .ok (.invokestatic 57, 3) := by decide +kernel
theorem d_M_compact_168 : decode b_M_compact 168 = .ok (.iadd, 1) := by decide +kernel
theorem d_M_compact_169 : decode b_M_compact 169 = .ok (.istore_n 1, 1) := by decide +kernel
theorem d_M_compact_170 : decode b_M_compact 170 = .ok (.iinc 2 1, 3) := by decide +kernel
theorem d_M_compact_173 : decode b_M_compact 173 = .ok (.goto (-108), 3) := by decide +kernel
theorem d_M_compact_176 : decode b_M_compact 176 = .ok (.iconst 1, 1) := by decide +kernel
theorem d_M_compact_177 : decode b_M_compact 177 = .ok (.aload_n 0, 1) := by decide +kernel
theorem d_M_compact_178 : decode b_M_compact 178 = .ok (.getfield 50, 3) := by decide +kernel
theorem d_M_compact_181 : decode b_M_compact 181 = .ok (.isub, 1) := by decide +kernel
theorem d_M_compact_182 : decode b_M_compact 182 = .ok (.istore_n 2, 1) := by decide +kernel
theorem d_M_compact_183 : decode b_M_compact 183 = .ok (.aload_n 0, 1) := by decide +kernel
theorem d_M_compact_184 : decode b_M_compact 184 = .ok (.getfield 72, 3) := by decide +kernel
theorem d_M_compact_187 : decode b_M_compact 187 = .ok (.iconst 1, 1) := by decide +kernel
theorem d_M_compact_188 : decode b_M_compact 188 = .ok (.iadd, 1) := by decide +kernel
theorem d_M_compact_189 : decode b_M_compact 189 = .ok (.istore_n 3, 1) := by decide +kernel
theorem d_M_compact_190 : decode b_M_compact 190 = .ok (.iload_n 2, 1) := by decide +kernel
theorem d_M_compact_191 : decode b_M_compact 191 = .ok (.invokestatic 53, 3) := by decide +kernel
theorem d_M_compact_194 : decode b_M_compact 194 = .ok (.sipush 512, 3) := by decide +kernel
theorem d_M_compact_197 : decode b_M_compact 197 = .ok (.idiv, 1) := by decide +kernel
theorem d_M_compact_198 : decode b_M_compact 198 = .ok (.istore 4, 2) := by decide +kernel
theorem d_M_compact_200 : decode b_M_compact 200 = .ok (.iconst 0, 1) := by decide +kernel
theorem d_M_compact_201 : decode b_M_compact 201 = .ok (.istore 5, 2) := by decide +kernel
theorem d_M_compact_203 : decode b_M_compact 203 = .ok (.iload 5, 2) := by decide +kernel
theorem d_M_compact_205 : decode b_M_compact 205 = .ok (.iload_n 1, 1) := by decide +kernel
theorem d_M_compact_206 : decode b_M_compact 206 = .ok (.invokestatic 106, 3) := by decide +kernel
theorem d_M_compact_209 : decode b_M_compact 209 = .ok (.if_icmp .gt 33, 3) := by decide +kernel
theorem d_M_compact_212 : decode b_M_compact 212 = .ok (.aload_n 0, 1) := by decide +kernel
theorem d_M_compact_213 : decode b_M_compact 213 = .ok (.iload 4, 2) := by decide +kernel
theorem d_M_compact_215 : decode b_M_compact 215 = .ok (.iload 5, 2) := by decide +kernel
theorem d_M_compact_217 : decode b_M_compact 217 = .ok (.iadd, 1) := by decide +kernel
theorem d_M_compact_218 : decode b_M_compact 218 = .ok (.aload_n 0, 1) := by decide +kernel
theorem d_M_compact_219 : decode b_M_compact 219 = .ok (.getfield 32, 3) := by decide +kernel
theorem d_M_compact_222 : decode b_M_compact 222 = .ok (.sipush 512, 3) := by decide +kernel
theorem d_M_compact_225 : decode b_M_compact 225 = .ok (.iload 5, 2) := by decide +kernel
theorem d_M_compact_227 : decode b_M_compact 227 = .ok (.imul, 1) := by decide +kernel
theorem d_M_compact_228 : decode b_M_compact 228 = .ok (.invokevirtual 109, 3) := by decide +kernel
theorem d_M_compact_231 : decode b_M_compact 231 = .ok (.ifCond .ne 5, 3) := by decide +kernel
theorem d_M_compact_234 : decode b_M_compact 234 = .ok (.iconst (-1), 1) := by decide +kernel
theorem d_M_compact_235 : decode b_M_compact 235 = .ok (.ireturn, 1) := by decide +kernel
theorem d_M_compact_236 : decode b_M_compact 236 = .ok (.iinc 5 1, 3) := by decide +kernel
theorem d_M_compact_239 : decode b_M_compact 239 = .ok (.goto (-36), 3) := by decide +kernel
theorem d_M_compact_242 : decode b_M_compact 242 = .ok (.aload_n 0, 1) := by decide +kernel
theorem d_M_compact_243 : decode b_M_compact 243 = .ok (.iload_n 2, 1) := by decide +kernel
theorem d_M_compact_244 : decode b_M_compact 244 = .ok (.iload_n 3, 1) := by decide +kernel
theorem d_M_compact_245 : decode b_M_compact 245 = .ok (.invokevirtual 85, 3) := by decide +kernel
theorem d_M_compact_248 : decode b_M_compact 248 = .ok (.aload_n 0, 1) := by decide +kernel
theorem d_M_compact_249 : decode b_M_compact 249 = .ok (.iload_n 3, 1) := by decide +kernel
theorem d_M_compact_250 : decode b_M_compact 250 = .ok (.iconst 2, 1) := by decide +kernel
theorem d_M_compact_251 : decode b_M_compact 251 = .ok (.irem, 1) := by decide +kernel
theorem d_M_compact_252 : decode b_M_compact 252 = .ok (.ifCond .ne 7, 3) := by decide +kernel
theorem d_M_compact_255 : decode b_M_compact 255 = .ok (.iconst 0, 1) := by decide +kernel
theorem d_M_compact_256 : decode b_M_compact 256 = .ok (.goto 4, 3) := by decide +kernel
theorem d_M_compact_259 : decode b_M_compact 259 = .ok (.iconst 1, 1) := by decide +kernel
theorem d_M_compact_260 : decode b_M_compact 260 = .ok (.aload_n 0, 1) := by decide +kernel
theorem d_M_compact_261 : decode b_M_compact 261 = .ok (.getfield 35, 3) := by decide +kernel
theorem d_M_compact_264 : decode b_M_compact 264 = .ok (.iconst 0, 1) := by decide +kernel
theorem d_M_compact_265 : decode b_M_compact 265 = .ok (.invokevirtual 109, 3) := by decide +kernel
theorem d_M_compact_268 : decode b_M_compact 268 = .ok (.ifCond .ne 5, 3) := by decide +kernel
theorem d_M_compact_271 : decode b_M_compact 271 = .ok (.iconst (-1), 1) := by decide +kernel
theorem d_M_compact_272 : decode b_M_compact 272 = .ok (.ireturn, 1) := by decide +kernel
theorem d_M_compact_273 : decode b_M_compact 273 = .ok (.aload_n 0, 1) := by decide +kernel
theorem d_M_compact_274 : decode b_M_compact 274 = .ok (.iload_n 2, 1) := by decide +kernel
theorem d_M_compact_275 : decode b_M_compact 275 = .ok (.putfield 50, 3) := by decide +kernel
theorem d_M_compact_278 : decode b_M_compact 278 = .ok (.aload_n 0, 1) := by decide +kernel
theorem d_M_compact_279 : decode b_M_compact 279 = .ok (.iload_n 3, 1) := by decide +kernel
theorem d_M_compact_280 : decode b_M_compact 280 = .ok (.putfield 72, 3) := by decide +kernel
theorem d_M_compact_283 : decode b_M_compact 283 = .ok (.aload_n 0, 1) := by decide +kernel
theorem d_M_compact_284 : decode b_M_compact 284 = .ok (.invokevirtual 75, 3) := by decide +kernel
theorem d_M_compact_287 : decode b_M_compact 287 = .ok (.aload_n 0, 1) := by decide +kernel
theorem d_M_compact_288 : decode b_M_compact 288 = .ok (.invokevirtual 82, 3) := by decide +kernel
theorem d_M_compact_291 : decode b_M_compact 291 = .ok (.aload_n 0, 1) := by decide +kernel
theorem d_M_compact_292 : decode b_M_compact 292 = .ok (.getfield 60, 3) := by decide +kernel
theorem d_M_compact_295 : decode b_M_compact 295 = .ok (.ireturn, 1) := by decide +kernel
theorem d_M_crashIn_0 : decode b_M_crashIn 0 = .ok (.aload_n 0, 1) := by decide +kernel
theorem d_M_crashIn_1 : decode b_M_crashIn 1 = .ok (.iconst 0, 1) := by decide +kernel
theorem d_M_crashIn_2 : decode b_M_crashIn 2 = .ok (.putfield 38, 3) := by decide +kernel
theorem d_M_crashIn_5 : decode b_M_crashIn 5 = .ok (.iload_n 1, 1) := by decide +kernel
theorem d_M_crashIn_6 : decode b_M_crashIn 6 = .ok (.sipush 1000, 3) := by decide +kernel
theorem d_M_crashIn_9 : decode b_M_crashIn 9 = .ok (.if_icmp .le 5, 3) := by decide +kernel
theorem d_M_crashIn_12 : decode b_M_crashIn 12 = .ok (.iconst 0, 1) := by decide +kernel
theorem d_M_crashIn_13 : decode b_M_crashIn 13 = .ok (.ireturn, 1) := by decide +kernel
theorem d_M_crashIn_14 : decode b_M_crashIn 14 = .ok (.aload_n 0, 1) := by decide +kernel
theorem d_M_crashIn_15 : decode b_M_crashIn 15 = .ok (.iload_n 1, 1) := by decide +kernel
theorem d_M_crashIn_16 : decode b_M_crashIn 16 = .ok (.ifCond .ge 7, 3) := by decide +kernel
theorem d_M_crashIn_19 : decode b_M_crashIn 19 = .ok (.iconst (-1), 1) := by decide +kernel
theorem d_M_crashIn_20 : decode b_M_crashIn 20 = .ok (.goto 4, 3) := by decide +kernel
theorem d_M_crashIn_23 : decode b_M_crashIn 23 = .ok (.iload_n 1, 1) := by decide +kernel
theorem d_M_crashIn_24 : decode b_M_crashIn 24 = .ok (.putfield 29, 3) := by decide +kernel
theorem d_M_crashIn_27 : decode b_M_crashIn 27 = .ok (.iconst 1, 1) := by decide +kernel
theorem d_M_crashIn_28 : decode b_M_crashIn 28 = .ok (.ireturn, 1) := by decide +kernel
theorem d_M_crash_0 : decode b_M_crash 0 = .ok (.aload_n 0, 1) := by decide +kernel
theorem d_M_crash_1 : decode b_M_crash 1 = .ok (.iconst 0, 1) := by decide +kernel
theorem d_M_crash_2 : decode b_M_crash 2 = .ok (.putfield 38, 3) := by decide +kernel
theorem d_M_crash_5 : decode b_M_crash 5 = .ok (.aload_n 0, 1) := by decide +kernel
theorem d_M_crash_6 : decode b_M_crash 6 = .ok (.invokevirtual 97, 3) := by decide +kernel
theorem d_M_crash_9 : decode b_M_crash 9 = .ok (.return_, 1) := by decide +kernel
theorem d_M_spoil_0 : decode b_M_spoil 0 = .ok (.aload_n 0, 1) := by decide +kernel
theorem d_M_spoil_1 : decode b_M_spoil 1 = .ok (.iconst 0, 1) := by decide +kernel
theorem d_M_spoil_2 : decode b_M_spoil 2 = .ok (.putfield 38, 3) := by decide +kernel
theorem d_M_spoil_5 : decode b_M_spoil 5 = .ok (.iload_n 1, 1) := by decide +kernel
theorem d_M_spoil_6 : decode b_M_spoil 6 = .ok (.ifCond .lt 28, 3) := by decide +kernel
theorem d_M_spoil_9 : decode b_M_spoil 9 = .ok (.iload_n 1, 1) := by decide +kernel
theorem d_M_spoil_10 : decode b_M_spoil 10 = .ok (.bipush 63, 2) := by decide +kernel
theorem d_M_spoil_12 : decode b_M_spoil 12 = .ok (.if_icmp .gt 22, 3) := by decide +kernel
theorem d_M_spoil_15 : decode b_M_spoil 15 = .ok (.iload_n 2, 1) := by decide +kernel
theorem d_M_spoil_16 : decode b_M_spoil 16 = .ok (.ifCond .lt 18, 3) := by decide +kernel
theorem d_M_spoil_19 : decode b_M_spoil 19 = .ok (.iload_n 2, 1) := by decide +kernel
theorem d_M_spoil_20 : decode b_M_spoil 20 = .ok (.sipush 511, 3) := by decide +kernel
theorem d_M_spoil_23 : decode b_M_spoil 23 = .ok (.if_icmp .gt 11, 3) := by decide +kernel
theorem d_M_spoil_26 : decode b_M_spoil 26 = .ok (.aload_n 0, 1) := by decide +kernel
theorem d_M_spoil_27 : decode b_M_spoil 27 = .ok (.getfield 14, 3) := by decide +kernel
theorem d_M_spoil_30 : decode b_M_spoil 30 = .ok (.iconst 2, 1) := by decide +kernel
theorem d_M_spoil_31 : decode b_M_spoil 31 = .ok (.if_icmp .ne 5, 3) := by decide +kernel
theorem d_M_spoil_34 : decode b_M_spoil 34 = .ok (.iconst 0, 1) := by decide +kernel
theorem d_M_spoil_35 : decode b_M_spoil 35 = .ok (.ireturn, 1) := by decide +kernel
theorem d_M_spoil_36 : decode b_M_spoil 36 = .ok (.aload_n 0, 1) := by decide +kernel
theorem d_M_spoil_37 : decode b_M_spoil 37 = .ok (.getfield 8, 3) := by decide +kernel
theorem d_M_spoil_40 : decode b_M_spoil 40 = .ok (.sipush 512, 3) := by decide +kernel
theorem d_M_spoil_43 : decode b_M_spoil 43 = .ok (.iload_n 1, 1) := by decide +kernel
theorem d_M_spoil_44 : decode b_M_spoil 44 = .ok (.imul, 1) := by decide +kernel
theorem d_M_spoil_45 : decode b_M_spoil 45 = .ok (.iload_n 2, 1) := by decide +kernel
theorem d_M_spoil_46 : decode b_M_spoil 46 = .ok (.iadd, 1) := by decide +kernel
theorem d_M_spoil_47 : decode b_M_spoil 47 = .ok (.iload_n 3, 1) := by decide +kernel
theorem d_M_spoil_48 : decode b_M_spoil 48 = .ok (.i2b, 1) := by decide +kernel
theorem d_M_spoil_49 : decode b_M_spoil 49 = .ok (.bastore, 1) := by decide +kernel
theorem d_M_spoil_50 : decode b_M_spoil 50 = .ok (.iconst 1, 1) := by decide +kernel
theorem d_M_spoil_51 : decode b_M_spoil 51 = .ok (.ireturn, 1) := by decide +kernel
theorem d_M_length_0 : decode b_M_length 0 = .ok (.aload_n 0, 1) := by decide +kernel
theorem d_M_length_1 : decode b_M_length 1 = .ok (.iconst 0, 1) := by decide +kernel
theorem d_M_length_2 : decode b_M_length 2 = .ok (.putfield 38, 3) := by decide +kernel
theorem d_M_length_5 : decode b_M_length 5 = .ok (.iload_n 1, 1) := by decide +kernel
theorem d_M_length_6 : decode b_M_length 6 = .ok (.ifCond .lt 11, 3) := by decide +kernel
theorem d_M_length_9 : decode b_M_length 9 = .ok (.iload_n 1, 1) := by decide +kernel
theorem d_M_length_10 : decode b_M_length 10 = .ok (.aload_n 0, 1) := by decide +kernel
theorem d_M_length_11 : decode b_M_length 11 = .ok (.getfield 60, 3) := by decide +kernel
theorem d_M_length_14 : decode b_M_length 14 = .ok (.if_icmp .lt 7, 3) := by decide +kernel
theorem d_M_length_17 : decode b_M_length 17 = .ok (.iconst (-1), 1) := by decide +kernel
theorem d_M_length_18 : decode b_M_length 18 = .ok (.goto 8, 3) := by decide +kernel
theorem d_M_length_21 : decode b_M_length 21 = .ok (.aload_n 0, 1) := by decide +kernel
theorem d_M_length_22 : decode b_M_length 22 = .ok (.iload_n 1, 1) := by decide +kernel
theorem d_M_length_23 : decode b_M_length 23 = .ok (.invokevirtual 114, 3) := by decide +kernel
theorem d_M_length_26 : decode b_M_length 26 = .ok (.ireturn, 1) := by decide +kernel
theorem d_M_record_0 : decode b_M_record 0 = .ok (.aload_n 0, 1) := by decide +kernel
theorem d_M_record_1 : decode b_M_record 1 = .ok (.iconst 0, 1) := by decide +kernel
theorem d_M_record_2 : decode b_M_record 2 = .ok (.putfield 38, 3) := by decide +kernel
theorem d_M_record_5 : decode b_M_record 5 = .ok (.iload_n 1, 1) := by decide +kernel
theorem d_M_record_6 : decode b_M_record 6 = .ok (.ifCond .lt 21, 3) := by decide +kernel
theorem d_M_record_9 : decode b_M_record 9 = .ok (.iload_n 1, 1) := by decide +kernel
theorem d_M_record_10 : decode b_M_record 10 = .ok (.aload_n 0, 1) := by decide +kernel
theorem d_M_record_11 : decode b_M_record 11 = .ok (.getfield 60, 3) := by decide +kernel
theorem d_M_record_14 : decode b_M_record 14 = .ok (.if_icmp .ge 13, 3) := by decide +kernel
theorem d_M_record_17 : decode b_M_record 17 = .ok (.iload_n 2, 1) := by decide +kernel
theorem d_M_record_18 : decode b_M_record 18 = .ok (.ifCond .lt 9, 3) := by decide +kernel
theorem d_M_record_21 : decode b_M_record 21 = .ok (.iload_n 2, 1) := by decide +kernel
theorem d_M_record_22 : decode b_M_record 22 = .ok (.bipush 125, 2) := by decide +kernel
theorem d_M_record_24 : decode b_M_record 24 = .ok (.if_icmp .le 5, 3) := by decide +kernel
theorem d_M_record_27 : decode b_M_record 27 = .ok (.lconst 0, 1) := by decide +kernel
theorem d_M_record_28 : decode b_M_record 28 = .ok (.lreturn, 1) := by decide +kernel
theorem d_M_record_29 : decode b_M_record 29 = .ok (.aload_n 0, 1) := by decide +kernel
theorem d_M_record_30 : decode b_M_record 30 = .ok (.iload_n 1, 1) := by decide +kernel
theorem d_M_record_31 : decode b_M_record 31 = .ok (.invokevirtual 114, 3) := by decide +kernel
theorem d_M_record_34 : decode b_M_record 34 = .ok (.istore_n 3, 1) := by decide +kernel
theorem d_M_record_35 : decode b_M_record 35 = .ok (.lconst 0, 1) := by decide +kernel
theorem d_M_record_36 : decode b_M_record 36 = .ok (.lstore 4, 2) := by decide +kernel
theorem d_M_record_38 : decode b_M_record 38 = .ok (.bipush 8, 2) := by decide +kernel
theorem d_M_record_40 : decode b_M_record 40 = .ok (.iload_n 2, 1) := by decide +kernel
theorem d_M_record_41 : decode b_M_record 41 = .ok (.imul, 1) := by decide +kernel
theorem d_M_record_42 : decode b_M_record 42 = .ok (.istore 6, 2) := by decide +kernel
theorem d_M_record_44 : decode b_M_record 44 = .ok (.iload 6, 2) := by decide +kernel
theorem d_M_record_46 : decode b_M_record 46 = .ok (.bipush 8, 2) := by decide +kernel
theorem d_M_record_48 : decode b_M_record 48 = .ok (.iload_n 2, 1) := by decide +kernel
theorem d_M_record_49 : decode b_M_record 49 = .ok (.imul, 1) := by decide +kernel
theorem d_M_record_50 : decode b_M_record 50 = .ok (.bipush 8, 2) := by decide +kernel
theorem d_M_record_52 : decode b_M_record 52 = .ok (.iadd, 1) := by decide +kernel
theorem d_M_record_53 : decode b_M_record 53 = .ok (.if_icmp .ge 56, 3) := by decide +kernel
theorem d_M_record_56 : decode b_M_record 56 = .ok (.lload 4, 2) := by decide +kernel
theorem d_M_record_58 : decode b_M_record 58 = .ok (.bipush 8, 2) := by decide +kernel
theorem d_M_record_60 : decode b_M_record 60 = .ok (.lshl, 1) := by decide +kernel
theorem d_M_record_61 : decode b_M_record 61 = .ok (.iload 6, 2) := by decide +kernel
theorem d_M_record_63 : decode b_M_record 63 = .ok (.iload_n 3, 1) := by decide +kernel
theorem d_M_record_64 : decode b_M_record 64 = .ok (.if_icmp .ge 34, 3) := by decide +kernel
theorem d_M_record_67 : decode b_M_record 67 = .ok (.aload_n 0, 1) := by decide +kernel
theorem d_M_record_68 : decode b_M_record 68 = .ok (.getfield 8, 3) := by decide +kernel
theorem d_M_record_71 : decode b_M_record 71 = .ok (.aload_n 0, 1) := by decide +kernel
theorem d_M_record_72 : decode b_M_record 72 = .ok (.getfield 50, 3) := by decide +kernel
theorem d_M_record_75 : decode b_M_record 75 = .ok (.invokestatic 53, 3) := by decide +kernel
theorem d_M_record_78 : decode b_M_record 78 = .ok (.aload_n 0, 1) := by decide +kernel
theorem d_M_record_79 : decode b_M_record 79 = .ok (.getfield 18, 3) := by decide +kernel
theorem d_M_record_82 : decode b_M_record 82 = .ok (.iload_n 1, 1) := by decide +kernel
theorem d_M_record_83 : decode b_M_record 83 = .ok (.iaload, 1) := by decide +kernel
theorem d_M_record_84 : decode b_M_record 84 = .ok (.iadd, 1) := by decide +kernel
theorem d_M_record_85 : decode b_M_record 85 = .ok (.iconst 2, 1) := by decide +kernel
theorem d_M_record_86 : decode b_M_record 86 = .ok (.iadd, 1) := by decide +kernel
theorem d_M_record_87 : decode b_M_record 87 = .ok (.iload 6, 2) := by decide +kernel
theorem d_M_record_89 : decode b_M_record 89 = .ok (.iadd, 1) := by decide +kernel
theorem d_M_record_90 : decode b_M_record 90 = .ok (.baload, 1) := by decide +kernel
theorem d_M_record_91 : decode b_M_record 91 = .ok (.sipush 255, 3) := by decide +kernel
theorem d_M_record_94 : decode b_M_record 94 = .ok (.iand, 1) := by decide +kernel
theorem d_M_record_95 : decode b_M_record 95 = .ok (.goto 4, 3) := by decide +kernel
theorem d_M_record_98 : decode b_M_record 98 = .ok (.iconst 0, 1) := by decide +kernel
theorem d_M_record_99 : decode b_M_record 99 = .ok (.i2l, 1) := by decide +kernel
theorem d_M_record_100 : decode b_M_record 100 = .ok (.lor, 1) := by decide +kernel
theorem d_M_record_101 : decode b_M_record 101 = .ok (.lstore 4, 2) := by decide +kernel
theorem d_M_record_103 : decode b_M_record 103 = .ok (.iinc 6 1, 3) := by decide +kernel
theorem d_M_record_106 : decode b_M_record 106 = .ok (.goto (-62), 3) := by decide +kernel
theorem d_M_record_109 : decode b_M_record 109 = .ok (.lload 4, 2) := by decide +kernel
theorem d_M_record_111 : decode b_M_record 111 = .ok (.lreturn, 1) := by decide +kernel
theorem d_M_block_0 : decode b_M_block 0 = .ok (.aload_n 0, 1) := by decide +kernel
theorem d_M_block_1 : decode b_M_block 1 = .ok (.iconst 0, 1) := by decide +kernel
theorem d_M_block_2 : decode b_M_block 2 = .ok (.putfield 38, 3) := by decide +kernel
theorem d_M_block_5 : decode b_M_block 5 = .ok (.iload_n 1, 1) := by decide +kernel
theorem d_M_block_6 : decode b_M_block 6 = .ok (.ifCond .lt 19, 3) := by decide +kernel
theorem d_M_block_9 : decode b_M_block 9 = .ok (.iload_n 1, 1) := by decide +kernel
theorem d_M_block_10 : decode b_M_block 10 = .ok (.bipush 63, 2) := by decide +kernel
theorem d_M_block_12 : decode b_M_block 12 = .ok (.if_icmp .gt 13, 3) := by decide +kernel
theorem d_M_block_15 : decode b_M_block 15 = .ok (.iload_n 2, 1) := by decide +kernel
theorem d_M_block_16 : decode b_M_block 16 = .ok (.ifCond .lt 9, 3) := by decide +kernel
theorem d_M_block_19 : decode b_M_block 19 = .ok (.iload_n 2, 1) := by decide +kernel
theorem d_M_block_20 : decode b_M_block 20 = .ok (.bipush 63, 2) := by decide +kernel
theorem d_M_block_22 : decode b_M_block 22 = .ok (.if_icmp .le 5, 3) := by decide +kernel
theorem d_M_block_25 : decode b_M_block 25 = .ok (.lconst 0, 1) := by decide +kernel
theorem d_M_block_26 : decode b_M_block 26 = .ok (.lreturn, 1) := by decide +kernel
theorem d_M_block_27 : decode b_M_block 27 = .ok (.lconst 0, 1) := by decide +kernel
theorem d_M_block_28 : decode b_M_block 28 = .ok (.lstore_n 3, 1) := by decide +kernel
theorem d_M_block_29 : decode b_M_block 29 = .ok (.iconst 0, 1) := by decide +kernel
theorem d_M_block_30 : decode b_M_block 30 = .ok (.istore 5, 2) := by decide +kernel
theorem d_M_block_32 : decode b_M_block 32 = .ok (.iload 5, 2) := by decide +kernel
theorem d_M_block_34 : decode b_M_block 34 = .ok (.bipush 8, 2) := by decide +kernel
theorem d_M_block_36 : decode b_M_block 36 = .ok (.if_icmp .ge 38, 3) := by decide +kernel
theorem d_M_block_39 : decode b_M_block 39 = .ok (.lload_n 3, 1) := by decide +kernel
theorem d_M_block_40 : decode b_M_block 40 = .ok (.bipush 8, 2) := by decide +kernel
theorem d_M_block_42 : decode b_M_block 42 = .ok (.lshl, 1) := by decide +kernel
theorem d_M_block_43 : decode b_M_block 43 = .ok (.aload_n 0, 1) := by decide +kernel
theorem d_M_block_44 : decode b_M_block 44 = .ok (.getfield 8, 3) := by decide +kernel
theorem d_M_block_47 : decode b_M_block 47 = .ok (.sipush 512, 3) := by decide +kernel
theorem d_M_block_50 : decode b_M_block 50 = .ok (.iload_n 1, 1) := by decide +kernel
theorem d_M_block_51 : decode b_M_block 51 = .ok (.imul, 1) := by decide +kernel
theorem d_M_block_52 : decode b_M_block 52 = .ok (.bipush 8, 2) := by decide +kernel
theorem d_M_block_54 : decode b_M_block 54 = .ok (.iload_n 2, 1) := by decide +kernel
theorem d_M_block_55 : decode b_M_block 55 = .ok (.imul, 1) := by decide +kernel
theorem d_M_block_56 : decode b_M_block 56 = .ok (.iadd, 1) := by decide +kernel
theorem d_M_block_57 : decode b_M_block 57 = .ok (.iload 5, 2) := by decide +kernel
theorem d_M_block_59 : decode b_M_block 59 = .ok (.iadd, 1) := by decide +kernel
theorem d_M_block_60 : decode b_M_block 60 = .ok (.baload, 1) := by decide +kernel
theorem d_M_block_61 : decode b_M_block 61 = .ok (.sipush 255, 3) := by decide +kernel
theorem d_M_block_64 : decode b_M_block 64 = .ok (.iand, 1) := by decide +kernel
theorem d_M_block_65 : decode b_M_block 65 = .ok (.i2l, 1) := by decide +kernel
theorem d_M_block_66 : decode b_M_block 66 = .ok (.lor, 1) := by decide +kernel
theorem d_M_block_67 : decode b_M_block 67 = .ok (.lstore_n 3, 1) := by decide +kernel
theorem d_M_block_68 : decode b_M_block 68 = .ok (.iinc 5 1, 3) := by decide +kernel
theorem d_M_block_71 : decode b_M_block 71 = .ok (.goto (-39), 3) := by decide +kernel
theorem d_M_block_74 : decode b_M_block 74 = .ok (.lload_n 3, 1) := by decide +kernel
theorem d_M_block_75 : decode b_M_block 75 = .ok (.lreturn, 1) := by decide +kernel
theorem d_M_look_0 : decode b_M_look 0 = .ok (.aload_n 0, 1) := by decide +kernel
theorem d_M_look_1 : decode b_M_look 1 = .ok (.iconst 0, 1) := by decide +kernel
theorem d_M_look_2 : decode b_M_look 2 = .ok (.putfield 38, 3) := by decide +kernel
theorem d_M_look_5 : decode b_M_look 5 = .ok (.iconst 0, 1) := by decide +kernel
theorem d_M_look_6 : decode b_M_look 6 = .ok (.istore_n 2, 1) := by decide +kernel
theorem d_M_look_7 : decode b_M_look 7 = .ok (.iconst 0, 1) := by decide +kernel
theorem d_M_look_8 : decode b_M_look 8 = .ok (.istore_n 3, 1) := by decide +kernel
theorem d_M_look_9 : decode b_M_look 9 = .ok (.iload_n 3, 1) := by decide +kernel
theorem d_M_look_10 : decode b_M_look 10 = .ok (.aload_n 0, 1) := by decide +kernel
theorem d_M_look_11 : decode b_M_look 11 = .ok (.getfield 60, 3) := by decide +kernel
theorem d_M_look_14 : decode b_M_look 14 = .ok (.if_icmp .ge 26, 3) := by decide +kernel
theorem d_M_look_17 : decode b_M_look 17 = .ok (.iload_n 2, 1) := by decide +kernel
theorem d_M_look_18 : decode b_M_look 18 = .ok (.aload_n 0, 1) := by decide +kernel
theorem d_M_look_19 : decode b_M_look 19 = .ok (.getfield 22, 3) := by decide +kernel
theorem d_M_look_22 : decode b_M_look 22 = .ok (.iload_n 3, 1) := by decide +kernel
theorem d_M_look_23 : decode b_M_look 23 = .ok (.baload, 1) := by decide +kernel
theorem d_M_look_24 : decode b_M_look 24 = .ok (.ifCond .eq 7, 3) := by decide +kernel
theorem d_M_look_27 : decode b_M_look 27 = .ok (.iconst 1, 1) := by decide +kernel
theorem d_M_look_28 : decode b_M_look 28 = .ok (.goto 4, 3) := by decide +kernel
theorem d_M_look_31 : decode b_M_look 31 = .ok (.iconst 0, 1) := by decide +kernel
theorem d_M_look_32 : decode b_M_look 32 = .ok (.iadd, 1) := by decide +kernel
theorem d_M_look_33 : decode b_M_look 33 = .ok (.istore_n 2, 1) := by decide +kernel
theorem d_M_look_34 : decode b_M_look 34 = .ok (.iinc 3 1, 3) := by decide +kernel
theorem d_M_look_37 : decode b_M_look 37 = .ok (.goto (-28), 3) := by decide +kernel
theorem d_M_look_40 : decode b_M_look 40 = .ok (.iload_n 1, 1) := by decide +kernel
theorem d_M_look_41 : decode b_M_look 41 = .ok (.tableswitch 93 0 8 #[51, 56, 61, 66, 71, 76, 81, 86, 91], 51) := by decide +kernel
theorem d_M_look_92 : decode b_M_look 92 = .ok (.aload_n 0, 1) := by decide +kernel
theorem d_M_look_93 : decode b_M_look 93 = .ok (.getfield 60, 3) := by decide +kernel
theorem d_M_look_96 : decode b_M_look 96 = .ok (.ireturn, 1) := by decide +kernel
theorem d_M_look_97 : decode b_M_look 97 = .ok (.aload_n 0, 1) := by decide +kernel
theorem d_M_look_98 : decode b_M_look 98 = .ok (.getfield 63, 3) := by decide +kernel
theorem d_M_look_101 : decode b_M_look 101 = .ok (.ireturn, 1) := by decide +kernel
theorem d_M_look_102 : decode b_M_look 102 = .ok (.aload_n 0, 1) := by decide +kernel
theorem d_M_look_103 : decode b_M_look 103 = .ok (.getfield 72, 3) := by decide +kernel
theorem d_M_look_106 : decode b_M_look 106 = .ok (.ireturn, 1) := by decide +kernel
theorem d_M_look_107 : decode b_M_look 107 = .ok (.aload_n 0, 1) := by decide +kernel
theorem d_M_look_108 : decode b_M_look 108 = .ok (.getfield 50, 3) := by decide +kernel
theorem d_M_look_111 : decode b_M_look 111 = .ok (.ireturn, 1) := by decide +kernel
theorem d_M_look_112 : decode b_M_look 112 = .ok (.aload_n 0, 1) := by decide +kernel
theorem d_M_look_113 : decode b_M_look 113 = .ok (.getfield 14, 3) := by decide +kernel
theorem d_M_look_116 : decode b_M_look 116 = .ok (.ireturn, 1) := by decide +kernel
theorem d_M_look_117 : decode b_M_look 117 = .ok (.aload_n 0, 1) := by decide +kernel
theorem d_M_look_118 : decode b_M_look 118 = .ok (.getfield 100, 3) := by decide +kernel
theorem d_M_look_121 : decode b_M_look 121 = .ok (.ireturn, 1) := by decide +kernel
theorem d_M_look_122 : decode b_M_look 122 = .ok (.aload_n 0, 1) := by decide +kernel
theorem d_M_look_123 : decode b_M_look 123 = .ok (.getfield 103, 3) := by decide +kernel
theorem d_M_look_126 : decode b_M_look 126 = .ok (.ireturn, 1) := by decide +kernel
theorem d_M_look_127 : decode b_M_look 127 = .ok (.aload_n 0, 1) := by decide +kernel
theorem d_M_look_128 : decode b_M_look 128 = .ok (.getfield 29, 3) := by decide +kernel
theorem d_M_look_131 : decode b_M_look 131 = .ok (.ireturn, 1) := by decide +kernel
theorem d_M_look_132 : decode b_M_look 132 = .ok (.iload_n 2, 1) := by decide +kernel
theorem d_M_look_133 : decode b_M_look 133 = .ok (.ireturn, 1) := by decide +kernel
theorem d_M_look_134 : decode b_M_look 134 = .ok (.iconst (-1), 1) := by decide +kernel
theorem d_M_look_135 : decode b_M_look 135 = .ok (.ireturn, 1) := by decide +kernel
