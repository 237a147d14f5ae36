theorem d_J_init_0 : decode b_J_init 0 = .ok (.aload_n 0, 1) := by decide +kernel
theorem d_J_init_1 : decode b_J_init 1 = .ok (.invokespecial 3, 3) := by decide +kernel
theorem d_J_init_4 : decode b_J_init 4 = .ok (.aload_n 0, 1) := by decide +kernel
theorem d_J_init_5 : decode b_J_init 5 = .ok (.new 9, 3) := by decide +kernel
theorem d_J_init_8 : decode b_J_init 8 = .ok (.dup, 1) := by decide +kernel
theorem d_J_init_9 : decode b_J_init 9 = .ok (.invokespecial 11, 3) := by decide +kernel
theorem d_J_init_12 : decode b_J_init 12 = .ok (.putfield 12, 3) := by decide +kernel
theorem d_J_init_15 : decode b_J_init 15 = .ok (.aload_n 0, 1) := by decide +kernel
theorem d_J_init_16 : decode b_J_init 16 = .ok (.new 16, 3) := by decide +kernel
theorem d_J_init_19 : decode b_J_init 19 = .ok (.dup, 1) := by decide +kernel
theorem d_J_init_20 : decode b_J_init 20 = .ok (.invokespecial 18, 3) := by decide +kernel
theorem d_J_init_23 : decode b_J_init 23 = .ok (.putfield 19, 3) := by decide +kernel
theorem d_J_init_26 : decode b_J_init 26 = .ok (.aload_n 0, 1) := by decide +kernel
theorem d_J_init_27 : decode b_J_init 27 = .ok (.sipush 1000, 3) := by decide +kernel
theorem d_J_init_30 : decode b_J_init 30 = .ok (.newarray .byte, 2) := by decide +kernel
theorem d_J_init_32 : decode b_J_init 32 = .ok (.putfield 23, 3) := by decide +kernel
theorem d_J_init_35 : decode b_J_init 35 = .ok (.aload_n 0, 1) := by decide +kernel
theorem d_J_init_36 : decode b_J_init 36 = .ok (.sipush 15872, 3) := by decide +kernel
theorem d_J_init_39 : decode b_J_init 39 = .ok (.newarray .byte, 2) := by decide +kernel
theorem d_J_init_41 : decode b_J_init 41 = .ok (.putfield 27, 3) := by decide +kernel
theorem d_J_init_44 : decode b_J_init 44 = .ok (.aload_n 0, 1) := by decide +kernel
theorem d_J_init_45 : decode b_J_init 45 = .ok (.iconst 0, 1) := by decide +kernel
theorem d_J_init_46 : decode b_J_init 46 = .ok (.putfield 30, 3) := by decide +kernel
theorem d_J_init_49 : decode b_J_init 49 = .ok (.aload_n 0, 1) := by decide +kernel
theorem d_J_init_50 : decode b_J_init 50 = .ok (.iconst 1, 1) := by decide +kernel
theorem d_J_init_51 : decode b_J_init 51 = .ok (.putfield 34, 3) := by decide +kernel
theorem d_J_init_54 : decode b_J_init 54 = .ok (.aload_n 0, 1) := by decide +kernel
theorem d_J_init_55 : decode b_J_init 55 = .ok (.iconst 0, 1) := by decide +kernel
theorem d_J_init_56 : decode b_J_init 56 = .ok (.putfield 37, 3) := by decide +kernel
theorem d_J_init_59 : decode b_J_init 59 = .ok (.aload_n 0, 1) := by decide +kernel
theorem d_J_init_60 : decode b_J_init 60 = .ok (.iconst 0, 1) := by decide +kernel
theorem d_J_init_61 : decode b_J_init 61 = .ok (.putfield 40, 3) := by decide +kernel
theorem d_J_init_64 : decode b_J_init 64 = .ok (.return_, 1) := by decide +kernel
theorem d_J_format_0 : decode b_J_format 0 = .ok (.aload_n 0, 1) := by decide +kernel
theorem d_J_format_1 : decode b_J_format 1 = .ok (.getfield 12, 3) := by decide +kernel
theorem d_J_format_4 : decode b_J_format 4 = .ok (.getfield 43, 3) := by decide +kernel
theorem d_J_format_7 : decode b_J_format 7 = .ok (.iconst 0, 1) := by decide +kernel
theorem d_J_format_8 : decode b_J_format 8 = .ok (.ldc 46, 2) := by decide +kernel
theorem d_J_format_10 : decode b_J_format 10 = .ok (.invokestatic 47, 3) := by decide +kernel
theorem d_J_format_13 : decode b_J_format 13 = .ok (.aload_n 0, 1) := by decide +kernel
theorem d_J_format_14 : decode b_J_format 14 = .ok (.getfield 12, 3) := by decide +kernel
theorem d_J_format_17 : decode b_J_format 17 = .ok (.getfield 43, 3) := by decide +kernel
theorem d_J_format_20 : decode b_J_format 20 = .ok (.sipush 512, 3) := by decide +kernel
theorem d_J_format_23 : decode b_J_format 23 = .ok (.iconst 1, 1) := by decide +kernel
theorem d_J_format_24 : decode b_J_format 24 = .ok (.iconst 0, 1) := by decide +kernel
theorem d_J_format_25 : decode b_J_format 25 = .ok (.invokestatic 51, 3) := by decide +kernel
theorem d_J_format_28 : decode b_J_format 28 = .ok (.aload_n 0, 1) := by decide +kernel
theorem d_J_format_29 : decode b_J_format 29 = .ok (.getfield 12, 3) := by decide +kernel
theorem d_J_format_32 : decode b_J_format 32 = .ok (.iconst (-1), 1) := by decide +kernel
theorem d_J_format_33 : decode b_J_format 33 = .ok (.putfield 55, 3) := by decide +kernel
theorem d_J_format_36 : decode b_J_format 36 = .ok (.aload_n 0, 1) := by decide +kernel
theorem d_J_format_37 : decode b_J_format 37 = .ok (.iconst 1, 1) := by decide +kernel
theorem d_J_format_38 : decode b_J_format 38 = .ok (.iconst 0, 1) := by decide +kernel
theorem d_J_format_39 : decode b_J_format 39 = .ok (.invokevirtual 58, 3) := by decide +kernel
theorem d_J_format_42 : decode b_J_format 42 = .ok (.return_, 1) := by decide +kernel
theorem d_J_give_0 : decode b_J_give 0 = .ok (.iload_n 3, 1) := by decide +kernel
theorem d_J_give_1 : decode b_J_give 1 = .ok (.iconst 1, 1) := by decide +kernel
theorem d_J_give_2 : decode b_J_give 2 = .ok (.if_icmp .lt 23, 3) := by decide +kernel
theorem d_J_give_5 : decode b_J_give 5 = .ok (.iload_n 3, 1) := by decide +kernel
theorem d_J_give_6 : decode b_J_give 6 = .ok (.bipush 8, 2) := by decide +kernel
theorem d_J_give_8 : decode b_J_give 8 = .ok (.if_icmp .gt 17, 3) := by decide +kernel
theorem d_J_give_11 : decode b_J_give 11 = .ok (.iload_n 3, 1) := by decide +kernel
theorem d_J_give_12 : decode b_J_give 12 = .ok (.aload_n 0, 1) := by decide +kernel
theorem d_J_give_13 : decode b_J_give 13 = .ok (.getfield 23, 3) := by decide +kernel
theorem d_J_give_16 : decode b_J_give 16 = .ok (.arraylength, 1) := by decide +kernel
theorem d_J_give_17 : decode b_J_give 17 = .ok (.aload_n 0, 1) := by decide +kernel
theorem d_J_give_18 : decode b_J_give 18 = .ok (.getfield 30, 3) := by decide +kernel
theorem d_J_give_21 : decode b_J_give 21 = .ok (.isub, 1) := by decide +kernel
theorem d_J_give_22 : decode b_J_give 22 = .ok (.if_icmp .le 5, 3) := by decide +kernel
theorem d_J_give_25 : decode b_J_give 25 = .ok (.iconst 0, 1) := by decide +kernel
theorem d_J_give_26 : decode b_J_give 26 = .ok (.ireturn, 1) := by decide +kernel
theorem d_J_give_27 : decode b_J_give 27 = .ok (.iload_n 3, 1) := by decide +kernel
theorem d_J_give_28 : decode b_J_give 28 = .ok (.iconst 1, 1) := by decide +kernel
theorem d_J_give_29 : decode b_J_give 29 = .ok (.isub, 1) := by decide +kernel
theorem d_J_give_30 : decode b_J_give 30 = .ok (.istore 4, 2) := by decide +kernel
theorem d_J_give_32 : decode b_J_give 32 = .ok (.iload 4, 2) := by decide +kernel
theorem d_J_give_34 : decode b_J_give 34 = .ok (.ifCond .lt 37, 3) := by decide +kernel
theorem d_J_give_37 : decode b_J_give 37 = .ok (.aload_n 0, 1) := by decide +kernel
theorem d_J_give_38 : decode b_J_give 38 = .ok (.getfield 23, 3) := by decide +kernel
theorem d_J_give_41 : decode b_J_give 41 = .ok (.aload_n 0, 1) := by decide +kernel
theorem d_J_give_42 : decode b_J_give 42 = .ok (.getfield 30, 3) := by decide +kernel
theorem d_J_give_45 : decode b_J_give 45 = .ok (.lload_n 1, 1) := by decide +kernel
theorem d_J_give_46 : decode b_J_give 46 = .ok (.bipush 8, 2) := by decide +kernel
theorem d_J_give_48 : decode b_J_give 48 = .ok (.iload 4, 2) := by decide +kernel
theorem d_J_give_50 : decode b_J_give 50 = .ok (.imul, 1) := by decide +kernel
theorem d_J_give_51 : decode b_J_give 51 = .ok (.lushr, 1) := by decide +kernel
theorem d_J_give_52 : decode b_J_give 52 = .ok (.l2i, 1) := by decide +kernel
theorem d_J_give_53 : decode b_J_give 53 = .ok (.i2b, 1) := by decide +kernel
theorem d_J_give_54 : decode b_J_give 54 = .ok (.bastore, 1) := by decide +kernel
theorem d_J_give_55 : decode b_J_give 55 = .ok (.aload_n 0, 1) := by decide +kernel
theorem d_J_give_56 : decode b_J_give 56 = .ok (.dup, 1) := by decide +kernel
theorem d_J_give_57 : decode b_J_give 57 = .ok (.getfield 30, 3) := by decide +kernel
theorem d_J_give_60 : decode b_J_give 60 = .ok (.iconst 1, 1) := by decide +kernel
theorem d_J_give_61 : decode b_J_give 61 = .ok (.iadd, 1) := by decide +kernel
theorem d_J_give_62 : decode b_J_give 62 = .ok (.putfield 30, 3) := by decide +kernel
theorem d_J_give_65 : decode b_J_give 65 = .ok (.iinc 4 (-1), 3) := by decide +kernel
theorem d_J_give_68 : decode b_J_give 68 = .ok (.goto (-36), 3) := by decide +kernel
theorem d_J_give_71 : decode b_J_give 71 = .ok (.iconst 1, 1) := by decide +kernel
theorem d_J_give_72 : decode b_J_give 72 = .ok (.ireturn, 1) := by decide +kernel
theorem d_J_wipe_0 : decode b_J_wipe 0 = .ok (.aload_n 0, 1) := by decide +kernel
theorem d_J_wipe_1 : decode b_J_wipe 1 = .ok (.iconst 0, 1) := by decide +kernel
theorem d_J_wipe_2 : decode b_J_wipe 2 = .ok (.putfield 30, 3) := by decide +kernel
theorem d_J_wipe_5 : decode b_J_wipe 5 = .ok (.return_, 1) := by decide +kernel
theorem d_J_append_0 : decode b_J_append 0 = .ok (.aload_n 0, 1) := by decide +kernel
theorem d_J_append_1 : decode b_J_append 1 = .ok (.getfield 34, 3) := by decide +kernel
theorem d_J_append_4 : decode b_J_append 4 = .ok (.iconst 2, 1) := by decide +kernel
theorem d_J_append_5 : decode b_J_append 5 = .ok (.if_icmp .eq 13, 3) := by decide +kernel
theorem d_J_append_8 : decode b_J_append 8 = .ok (.new 62, 3) := by decide +kernel
theorem d_J_append_11 : decode b_J_append 11 = .ok (.dup, 1) := by decide +kernel
theorem d_J_append_12 : decode b_J_append 12 = .ok (.ldc 64, 2) := by decide +kernel
theorem d_J_append_14 : decode b_J_append 14 = .ok (.invokespecial 66, 3) := by decide +kernel
theorem d_J_append_17 : decode b_J_append 17 = .ok (.athrow, 1) := by decide +kernel
theorem d_J_append_18 : decode b_J_append 18 = .ok (.aload_n 0, 1) := by decide +kernel
theorem d_J_append_19 : decode b_J_append 19 = .ok (.getfield 30, 3) := by decide +kernel
theorem d_J_append_22 : decode b_J_append 22 = .ok (.ifCond .ne 13, 3) := by decide +kernel
theorem d_J_append_25 : decode b_J_append 25 = .ok (.new 69, 3) := by decide +kernel
theorem d_J_append_28 : decode b_J_append 28 = .ok (.dup, 1) := by decide +kernel
theorem d_J_append_29 : decode b_J_append 29 = .ok (.ldc 71, 2) := by decide +kernel
theorem d_J_append_31 : decode b_J_append 31 = .ok (.invokespecial 73, 3) := by decide +kernel
theorem d_J_append_34 : decode b_J_append 34 = .ok (.athrow, 1) := by decide +kernel
theorem d_J_append_35 : decode b_J_append 35 = .ok (.aload_n 0, 1) := by decide +kernel
theorem d_J_append_36 : decode b_J_append 36 = .ok (.getfield 30, 3) := by decide +kernel
theorem d_J_append_39 : decode b_J_append 39 = .ok (.invokestatic 74, 3) := by decide +kernel
theorem d_J_append_42 : decode b_J_append 42 = .ok (.sipush 15872, 3) := by decide +kernel
theorem d_J_append_45 : decode b_J_append 45 = .ok (.aload_n 0, 1) := by decide +kernel
theorem d_J_append_46 : decode b_J_append 46 = .ok (.getfield 19, 3) := by decide +kernel
theorem d_J_append_49 : decode b_J_append 49 = .ok (.getfield 78, 3) := by decide +kernel
theorem d_J_append_52 : decode b_J_append 52 = .ok (.isub, 1) := by decide +kernel
theorem d_J_append_53 : decode b_J_append 53 = .ok (.if_icmp .le 13, 3) := by decide +kernel
theorem d_J_append_56 : decode b_J_append 56 = .ok (.new 81, 3) := by decide +kernel
theorem d_J_append_59 : decode b_J_append 59 = .ok (.dup, 1) := by decide +kernel
theorem d_J_append_60 : decode b_J_append 60 = .ok (.ldc 83, 2) := by decide +kernel
theorem d_J_append_62 : decode b_J_append 62 = .ok (.invokespecial 85, 3) := by decide +kernel
theorem d_J_append_65 : decode b_J_append 65 = .ok (.athrow, 1) := by decide +kernel
theorem d_J_append_66 : decode b_J_append 66 = .ok (.aload_n 0, 1) := by decide +kernel
theorem d_J_append_67 : decode b_J_append 67 = .ok (.getfield 30, 3) := by decide +kernel
theorem d_J_append_70 : decode b_J_append 70 = .ok (.istore_n 1, 1) := by decide +kernel
theorem d_J_append_71 : decode b_J_append 71 = .ok (.aload_n 0, 1) := by decide +kernel
theorem d_J_append_72 : decode b_J_append 72 = .ok (.getfield 19, 3) := by decide +kernel
theorem d_J_append_75 : decode b_J_append 75 = .ok (.getfield 78, 3) := by decide +kernel
theorem d_J_append_78 : decode b_J_append 78 = .ok (.sipush 512, 3) := by decide +kernel
theorem d_J_append_81 : decode b_J_append 81 = .ok (.idiv, 1) := by decide +kernel
theorem d_J_append_82 : decode b_J_append 82 = .ok (.istore_n 2, 1) := by decide +kernel
theorem d_J_append_83 : decode b_J_append 83 = .ok (.aload_n 0, 1) := by decide +kernel
theorem d_J_append_84 : decode b_J_append 84 = .ok (.getfield 19, 3) := by decide +kernel
theorem d_J_append_87 : decode b_J_append 87 = .ok (.getfield 78, 3) := by decide +kernel
theorem d_J_append_90 : decode b_J_append 90 = .ok (.iload_n 1, 1) := by decide +kernel
theorem d_J_append_91 : decode b_J_append 91 = .ok (.invokestatic 74, 3) := by decide +kernel
theorem d_J_append_94 : decode b_J_append 94 = .ok (.iadd, 1) := by decide +kernel
theorem d_J_append_95 : decode b_J_append 95 = .ok (.invokestatic 86, 3) := by decide +kernel
theorem d_J_append_98 : decode b_J_append 98 = .ok (.istore_n 3, 1) := by decide +kernel
theorem d_J_append_99 : decode b_J_append 99 = .ok (.aload_n 0, 1) := by decide +kernel
theorem d_J_append_100 : decode b_J_append 100 = .ok (.iload_n 2, 1) := by decide +kernel
theorem d_J_append_101 : decode b_J_append 101 = .ok (.iload_n 3, 1) := by decide +kernel
theorem d_J_append_102 : decode b_J_append 102 = .ok (.invokevirtual 89, 3) := by decide +kernel
theorem d_J_append_105 : decode b_J_append 105 = .ok (.aload_n 0, 1) := by decide +kernel
theorem d_J_append_106 : decode b_J_append 106 = .ok (.iconst 0, 1) := by decide +kernel
theorem d_J_append_107 : decode b_J_append 107 = .ok (.putfield 30, 3) := by decide +kernel
theorem d_J_append_110 : decode b_J_append 110 = .ok (.aload_n 0, 1) := by decide +kernel
theorem d_J_append_111 : decode b_J_append 111 = .ok (.iload_n 2, 1) := by decide +kernel
theorem d_J_append_112 : decode b_J_append 112 = .ok (.iload_n 3, 1) := by decide +kernel
theorem d_J_append_113 : decode b_J_append 113 = .ok (.invokevirtual 92, 3) := by decide +kernel
theorem d_J_append_116 : decode b_J_append 116 = .ok (.ifCond .ne 10, 3) := by decide +kernel
theorem d_J_append_119 : decode b_J_append 119 = .ok (.aload_n 0, 1) := by decide +kernel
theorem d_J_append_120 : decode b_J_append 120 = .ok (.iconst 0, 1) := by decide +kernel
theorem d_J_append_121 : decode b_J_append 121 = .ok (.invokevirtual 96, 3) := by decide +kernel
theorem d_J_append_124 : decode b_J_append 124 = .ok (.iconst (-1), 1) := by decide +kernel
theorem d_J_append_125 : decode b_J_append 125 = .ok (.ireturn, 1) := by decide +kernel
theorem d_J_append_126 : decode b_J_append 126 = .ok (.aload_n 0, 1) := by decide +kernel
theorem d_J_append_127 : decode b_J_append 127 = .ok (.getfield 19, 3) := by decide +kernel
theorem d_J_append_130 : decode b_J_append 130 = .ok (.iload_n 1, 1) := by decide +kernel
theorem d_J_append_131 : decode b_J_append 131 = .ok (.invokevirtual 100, 3) := by decide +kernel
theorem d_J_append_134 : decode b_J_append 134 = .ok (.aload_n 0, 1) := by decide +kernel
theorem d_J_append_135 : decode b_J_append 135 = .ok (.getfield 19, 3) := by decide +kernel
theorem d_J_append_138 : decode b_J_append 138 = .ok (.getfield 103, 3) := by decide +kernel
theorem d_J_append_141 : decode b_J_append 141 = .ok (.iconst 1, 1) := by decide +kernel
theorem d_J_append_142 : decode b_J_append 142 = .ok (.isub, 1) := by decide +kernel
theorem d_J_append_143 : decode b_J_append 143 = .ok (.ireturn, 1) := by decide +kernel
theorem d_J_mark_0 : decode b_J_mark 0 = .ok (.aload_n 0, 1) := by decide +kernel
theorem d_J_mark_1 : decode b_J_mark 1 = .ok (.getfield 19, 3) := by decide +kernel
theorem d_J_mark_4 : decode b_J_mark 4 = .ok (.iload_n 1, 1) := by decide +kernel
theorem d_J_mark_5 : decode b_J_mark 5 = .ok (.invokevirtual 106, 3) := by decide +kernel
theorem d_J_mark_8 : decode b_J_mark 8 = .ok (.ifCond .ne 5, 3) := by decide +kernel
theorem d_J_mark_11 : decode b_J_mark 11 = .ok (.iconst 0, 1) := by decide +kernel
theorem d_J_mark_12 : decode b_J_mark 12 = .ok (.ireturn, 1) := by decide +kernel
theorem d_J_mark_13 : decode b_J_mark 13 = .ok (.aload_n 0, 1) := by decide +kernel
theorem d_J_mark_14 : decode b_J_mark 14 = .ok (.getfield 19, 3) := by decide +kernel
theorem d_J_mark_17 : decode b_J_mark 17 = .ok (.iload_n 1, 1) := by decide +kernel
theorem d_J_mark_18 : decode b_J_mark 18 = .ok (.iload_n 2, 1) := by decide +kernel
theorem d_J_mark_19 : decode b_J_mark 19 = .ok (.invokevirtual 110, 3) := by decide +kernel
theorem d_J_mark_22 : decode b_J_mark 22 = .ok (.iconst 1, 1) := by decide +kernel
theorem d_J_mark_23 : decode b_J_mark 23 = .ok (.ireturn, 1) := by decide +kernel
theorem d_J_compact_0 : decode b_J_compact 0 = .ok (.aload_n 0, 1) := by decide +kernel
theorem d_J_compact_1 : decode b_J_compact 1 = .ok (.getfield 34, 3) := by decide +kernel
theorem d_J_compact_4 : decode b_J_compact 4 = .ok (.iconst 2, 1) := by decide +kernel
theorem d_J_compact_5 : decode b_J_compact 5 = .ok (.if_icmp .eq 13, 3) := by decide +kernel
theorem d_J_compact_8 : decode b_J_compact 8 = .ok (.new 62, 3) := by decide +kernel
theorem d_J_compact_11 : decode b_J_compact 11 = .ok (.dup, 1) := by decide +kernel
theorem d_J_compact_12 : decode b_J_compact 12 = .ok (.ldc 64, 2) := by decide +kernel
theorem d_J_compact_14 : decode b_J_compact 14 = .ok (.invokespecial 66, 3) := by decide +kernel
theorem d_J_compact_17 : decode b_J_compact 17 = .ok (.athrow, 1) := by decide +kernel
theorem d_J_compact_18 : decode b_J_compact 18 = .ok (.aload_n 0, 1) := by decide +kernel
theorem d_J_compact_19 : decode b_J_compact 19 = .ok (.getfield 37, 3) := by decide +kernel
theorem d_J_compact_22 : decode b_J_compact 22 = .ok (.ldc 114, 2) := by decide +kernel
theorem d_J_compact_24 : decode b_J_compact 24 = .ok (.if_icmp .ne 13, 3) := by decide +kernel
theorem d_J_compact_27 : decode b_J_compact 27 = .ok (.new 81, 3) := by decide +kernel
theorem d_J_compact_30 : decode b_J_compact 30 = .ok (.dup, 1) := by decide +kernel
theorem d_J_compact_31 : decode b_J_compact 31 = .ok (.ldc 115, 2) := by decide +kernel
theorem d_J_compact_33 : decode b_J_compact 33 = .ok (.invokespecial 85, 3) := by decide +kernel
theorem d_J_compact_36 : decode b_J_compact 36 = .ok (.athrow, 1) := by decide +kernel
theorem d_J_compact_37 : decode b_J_compact 37 = .ok (.aload_n 0, 1) := by decide +kernel
theorem d_J_compact_38 : decode b_J_compact 38 = .ok (.getfield 37, 3) := by decide +kernel
theorem d_J_compact_41 : decode b_J_compact 41 = .ok (.iconst 1, 1) := by decide +kernel
theorem d_J_compact_42 : decode b_J_compact 42 = .ok (.iadd, 1) := by decide +kernel
theorem d_J_compact_43 : decode b_J_compact 43 = .ok (.istore_n 1, 1) := by decide +kernel
theorem d_J_compact_44 : decode b_J_compact 44 = .ok (.iconst 1, 1) := by decide +kernel
theorem d_J_compact_45 : decode b_J_compact 45 = .ok (.aload_n 0, 1) := by decide +kernel
theorem d_J_compact_46 : decode b_J_compact 46 = .ok (.getfield 40, 3) := by decide +kernel
theorem d_J_compact_49 : decode b_J_compact 49 = .ok (.isub, 1) := by decide +kernel
theorem d_J_compact_50 : decode b_J_compact 50 = .ok (.istore_n 2, 1) := by decide +kernel
theorem d_J_compact_51 : decode b_J_compact 51 = .ok (.aload_n 0, 1) := by decide +kernel
theorem d_J_compact_52 : decode b_J_compact 52 = .ok (.invokevirtual 117, 3) := by decide +kernel
theorem d_J_compact_55 : decode b_J_compact 55 = .ok (.invokestatic 86, 3) := by decide +kernel
theorem d_J_compact_58 : decode b_J_compact 58 = .ok (.istore_n 3, 1) := by decide +kernel
theorem d_J_compact_59 : decode b_J_compact 59 = .ok (.aload_n 0, 1) := by decide +kernel
theorem d_J_compact_60 : decode b_J_compact 60 = .ok (.iload_n 2, 1) := by decide +kernel
theorem d_J_compact_61 : decode b_J_compact 61 = .ok (.iload_n 3, 1) := by decide +kernel
theorem d_J_compact_62 : decode b_J_compact 62 = .ok (.invokevirtual 121, 3) := by decide +kernel
theorem d_J_compact_65 : decode b_J_compact 65 = .ok (.ifCond .eq 12, 3) := by decide +kernel
theorem d_J_compact_68 : decode b_J_compact 68 = .ok (.aload_n 0, 1) := by decide +kernel
theorem d_J_compact_69 : decode b_J_compact 69 = .ok (.iload_n 1, 1) := by decide +kernel
theorem d_J_compact_70 : decode b_J_compact 70 = .ok (.iload_n 2, 1) := by decide +kernel
theorem d_J_compact_71 : decode b_J_compact 71 = .ok (.invokevirtual 124, 3) := by decide +kernel
theorem d_J_compact_74 : decode b_J_compact 74 = .ok (.ifCond .ne 10, 3) := by decide +kernel
theorem d_J_compact_77 : decode b_J_compact 77 = .ok (.aload_n 0, 1) := by decide +kernel
theorem d_J_compact_78 : decode b_J_compact 78 = .ok (.iconst 0, 1) := by decide +kernel
theorem d_J_compact_79 : decode b_J_compact 79 = .ok (.invokevirtual 96, 3) := by decide +kernel
theorem d_J_compact_82 : decode b_J_compact 82 = .ok (.iconst (-1), 1) := by decide +kernel
theorem d_J_compact_83 : decode b_J_compact 83 = .ok (.ireturn, 1) := by decide +kernel
theorem d_J_compact_84 : decode b_J_compact 84 = .ok (.aload_n 0, 1) := by decide +kernel
theorem d_J_compact_85 : decode b_J_compact 85 = .ok (.iload_n 1, 1) := by decide +kernel
theorem d_J_compact_86 : decode b_J_compact 86 = .ok (.iload_n 2, 1) := by decide +kernel
theorem d_J_compact_87 : decode b_J_compact 87 = .ok (.invokevirtual 58, 3) := by decide +kernel
theorem d_J_compact_90 : decode b_J_compact 90 = .ok (.aload_n 0, 1) := by decide +kernel
theorem d_J_compact_91 : decode b_J_compact 91 = .ok (.getfield 19, 3) := by decide +kernel
theorem d_J_compact_94 : decode b_J_compact 94 = .ok (.getfield 103, 3) := by decide +kernel
theorem d_J_compact_97 : decode b_J_compact 97 = .ok (.ireturn, 1) := by decide +kernel
theorem d_J_crashIn_0 : decode b_J_crashIn 0 = .ok (.iload_n 1, 1) := by decide +kernel
theorem d_J_crashIn_1 : decode b_J_crashIn 1 = .ok (.sipush 1000, 3) := by decide +kernel
theorem d_J_crashIn_4 : decode b_J_crashIn 4 = .ok (.if_icmp .le 5, 3) := by decide +kernel
theorem d_J_crashIn_7 : decode b_J_crashIn 7 = .ok (.iconst 0, 1) := by decide +kernel
theorem d_J_crashIn_8 : decode b_J_crashIn 8 = .ok (.ireturn, 1) := by decide +kernel
theorem d_J_crashIn_9 : decode b_J_crashIn 9 = .ok (.aload_n 0, 1) := by decide +kernel
theorem d_J_crashIn_10 : decode b_J_crashIn 10 = .ok (.getfield 12, 3) := by decide +kernel
theorem d_J_crashIn_13 : decode b_J_crashIn 13 = .ok (.iload_n 1, 1) := by decide +kernel
theorem d_J_crashIn_14 : decode b_J_crashIn 14 = .ok (.ifCond .ge 7, 3) := by decide +kernel
theorem d_J_crashIn_17 : decode b_J_crashIn 17 = .ok (.iconst (-1), 1) := by decide +kernel
theorem d_J_crashIn_18 : decode b_J_crashIn 18 = .ok (.goto 4, 3) := by decide +kernel
theorem d_J_crashIn_21 : decode b_J_crashIn 21 = .ok (.iload_n 1, 1) := by decide +kernel
theorem d_J_crashIn_22 : decode b_J_crashIn 22 = .ok (.putfield 55, 3) := by decide +kernel
theorem d_J_crashIn_25 : decode b_J_crashIn 25 = .ok (.iconst 1, 1) := by decide +kernel
theorem d_J_crashIn_26 : decode b_J_crashIn 26 = .ok (.ireturn, 1) := by decide +kernel
theorem d_J_crash_0 : decode b_J_crash 0 = .ok (.aload_n 0, 1) := by decide +kernel
theorem d_J_crash_1 : decode b_J_crash 1 = .ok (.iconst 0, 1) := by decide +kernel
theorem d_J_crash_2 : decode b_J_crash 2 = .ok (.invokevirtual 96, 3) := by decide +kernel
theorem d_J_crash_5 : decode b_J_crash 5 = .ok (.return_, 1) := by decide +kernel
theorem d_J_recover_0 : decode b_J_recover 0 = .ok (.aload_n 0, 1) := by decide +kernel
theorem d_J_recover_1 : decode b_J_recover 1 = .ok (.getfield 12, 3) := by decide +kernel
theorem d_J_recover_4 : decode b_J_recover 4 = .ok (.iconst (-1), 1) := by decide +kernel
theorem d_J_recover_5 : decode b_J_recover 5 = .ok (.putfield 55, 3) := by decide +kernel
theorem d_J_recover_8 : decode b_J_recover 8 = .ok (.aload_n 0, 1) := by decide +kernel
theorem d_J_recover_9 : decode b_J_recover 9 = .ok (.iconst 0, 1) := by decide +kernel
theorem d_J_recover_10 : decode b_J_recover 10 = .ok (.invokevirtual 127, 3) := by decide +kernel
theorem d_J_recover_13 : decode b_J_recover 13 = .ok (.istore_n 1, 1) := by decide +kernel
theorem d_J_recover_14 : decode b_J_recover 14 = .ok (.aload_n 0, 1) := by decide +kernel
theorem d_J_recover_15 : decode b_J_recover 15 = .ok (.iconst 1, 1) := by decide +kernel
theorem d_J_recover_16 : decode b_J_recover 16 = .ok (.invokevirtual 127, 3) := by decide +kernel
theorem d_J_recover_19 : decode b_J_recover 19 = .ok (.istore_n 2, 1) := by decide +kernel
theorem d_J_recover_20 : decode b_J_recover 20 = .ok (.iload_n 1, 1) := by decide +kernel
theorem d_J_recover_21 : decode b_J_recover 21 = .ok (.ifCond .ne 14, 3) := by decide +kernel
theorem d_J_recover_24 : decode b_J_recover 24 = .ok (.iload_n 2, 1) := by decide +kernel
theorem d_J_recover_25 : decode b_J_recover 25 = .ok (.ifCond .ne 10, 3) := by decide +kernel
theorem d_J_recover_28 : decode b_J_recover 28 = .ok (.aload_n 0, 1) := by decide +kernel
theorem d_J_recover_29 : decode b_J_recover 29 = .ok (.iconst 1, 1) := by decide +kernel
theorem d_J_recover_30 : decode b_J_recover 30 = .ok (.invokevirtual 96, 3) := by decide +kernel
theorem d_J_recover_33 : decode b_J_recover 33 = .ok (.iconst (-1), 1) := by decide +kernel
theorem d_J_recover_34 : decode b_J_recover 34 = .ok (.ireturn, 1) := by decide +kernel
theorem d_J_recover_35 : decode b_J_recover 35 = .ok (.iload_n 1, 1) := by decide +kernel
theorem d_J_recover_36 : decode b_J_recover 36 = .ok (.iload_n 2, 1) := by decide +kernel
theorem d_J_recover_37 : decode b_J_recover 37 = .ok (.if_icmp .lt 16, 3) := by decide +kernel
theorem d_J_recover_40 : decode b_J_recover 40 = .ok (.aload_n 0, 1) := by decide +kernel
theorem d_J_recover_41 : decode b_J_recover 41 = .ok (.iload_n 1, 1) := by decide +kernel
theorem d_J_recover_42 : decode b_J_recover 42 = .ok (.aload_n 0, 1) := by decide +kernel
theorem d_J_recover_43 : decode b_J_recover 43 = .ok (.iconst 0, 1) := by decide +kernel
theorem d_J_recover_44 : decode b_J_recover 44 = .ok (.invokevirtual 130, 3) := by decide +kernel
theorem d_J_recover_47 : decode b_J_recover 47 = .ok (.invokevirtual 58, 3) := by decide +kernel
theorem d_J_recover_50 : decode b_J_recover 50 = .ok (.goto 13, 3) := by decide +kernel
theorem d_J_recover_53 : decode b_J_recover 53 = .ok (.aload_n 0, 1) := by decide +kernel
theorem d_J_recover_54 : decode b_J_recover 54 = .ok (.iload_n 2, 1) := by decide +kernel
theorem d_J_recover_55 : decode b_J_recover 55 = .ok (.aload_n 0, 1) := by decide +kernel
theorem d_J_recover_56 : decode b_J_recover 56 = .ok (.iconst 1, 1) := by decide +kernel
theorem d_J_recover_57 : decode b_J_recover 57 = .ok (.invokevirtual 130, 3) := by decide +kernel
theorem d_J_recover_60 : decode b_J_recover 60 = .ok (.invokevirtual 58, 3) := by decide +kernel
theorem d_J_recover_63 : decode b_J_recover 63 = .ok (.aload_n 0, 1) := by decide +kernel
theorem d_J_recover_64 : decode b_J_recover 64 = .ok (.getfield 19, 3) := by decide +kernel
theorem d_J_recover_67 : decode b_J_recover 67 = .ok (.getfield 103, 3) := by decide +kernel
theorem d_J_recover_70 : decode b_J_recover 70 = .ok (.ireturn, 1) := by decide +kernel
theorem d_J_spoil_0 : decode b_J_spoil 0 = .ok (.aload_n 0, 1) := by decide +kernel
theorem d_J_spoil_1 : decode b_J_spoil 1 = .ok (.getfield 34, 3) := by decide +kernel
theorem d_J_spoil_4 : decode b_J_spoil 4 = .ok (.iconst 2, 1) := by decide +kernel
theorem d_J_spoil_5 : decode b_J_spoil 5 = .ok (.if_icmp .eq 21, 3) := by decide +kernel
theorem d_J_spoil_8 : decode b_J_spoil 8 = .ok (.iload_n 1, 1) := by decide +kernel
theorem d_J_spoil_9 : decode b_J_spoil 9 = .ok (.invokestatic 133, 3) := by decide +kernel
theorem d_J_spoil_12 : decode b_J_spoil 12 = .ok (.ifCond .eq 14, 3) := by decide +kernel
theorem d_J_spoil_15 : decode b_J_spoil 15 = .ok (.iload_n 2, 1) := by decide +kernel
theorem d_J_spoil_16 : decode b_J_spoil 16 = .ok (.ifCond .lt 10, 3) := by decide +kernel
theorem d_J_spoil_19 : decode b_J_spoil 19 = .ok (.iload_n 2, 1) := by decide +kernel
theorem d_J_spoil_20 : decode b_J_spoil 20 = .ok (.sipush 512, 3) := by decide +kernel
theorem d_J_spoil_23 : decode b_J_spoil 23 = .ok (.if_icmp .lt 5, 3) := by decide +kernel
theorem d_J_spoil_26 : decode b_J_spoil 26 = .ok (.iconst 0, 1) := by decide +kernel
theorem d_J_spoil_27 : decode b_J_spoil 27 = .ok (.ireturn, 1) := by decide +kernel
theorem d_J_spoil_28 : decode b_J_spoil 28 = .ok (.aload_n 0, 1) := by decide +kernel
theorem d_J_spoil_29 : decode b_J_spoil 29 = .ok (.getfield 12, 3) := by decide +kernel
theorem d_J_spoil_32 : decode b_J_spoil 32 = .ok (.getfield 43, 3) := by decide +kernel
theorem d_J_spoil_35 : decode b_J_spoil 35 = .ok (.iload_n 1, 1) := by decide +kernel
theorem d_J_spoil_36 : decode b_J_spoil 36 = .ok (.sipush 512, 3) := by decide +kernel
theorem d_J_spoil_39 : decode b_J_spoil 39 = .ok (.imul, 1) := by decide +kernel
theorem d_J_spoil_40 : decode b_J_spoil 40 = .ok (.iload_n 2, 1) := by decide +kernel
theorem d_J_spoil_41 : decode b_J_spoil 41 = .ok (.iadd, 1) := by decide +kernel
theorem d_J_spoil_42 : decode b_J_spoil 42 = .ok (.iload_n 3, 1) := by decide +kernel
theorem d_J_spoil_43 : decode b_J_spoil 43 = .ok (.i2b, 1) := by decide +kernel
theorem d_J_spoil_44 : decode b_J_spoil 44 = .ok (.bastore, 1) := by decide +kernel
theorem d_J_spoil_45 : decode b_J_spoil 45 = .ok (.iconst 1, 1) := by decide +kernel
theorem d_J_spoil_46 : decode b_J_spoil 46 = .ok (.ireturn, 1) := by decide +kernel
theorem d_J_length_0 : decode b_J_length 0 = .ok (.aload_n 0, 1) := by decide +kernel
theorem d_J_length_1 : decode b_J_length 1 = .ok (.getfield 19, 3) := by decide +kernel
theorem d_J_length_4 : decode b_J_length 4 = .ok (.iload_n 1, 1) := by decide +kernel
theorem d_J_length_5 : decode b_J_length 5 = .ok (.invokevirtual 106, 3) := by decide +kernel
theorem d_J_length_8 : decode b_J_length 8 = .ok (.ifCond .eq 15, 3) := by decide +kernel
theorem d_J_length_11 : decode b_J_length 11 = .ok (.aload_n 0, 1) := by decide +kernel
theorem d_J_length_12 : decode b_J_length 12 = .ok (.getfield 19, 3) := by decide +kernel
theorem d_J_length_15 : decode b_J_length 15 = .ok (.getfield 136, 3) := by decide +kernel
theorem d_J_length_18 : decode b_J_length 18 = .ok (.iload_n 1, 1) := by decide +kernel
theorem d_J_length_19 : decode b_J_length 19 = .ok (.iaload, 1) := by decide +kernel
theorem d_J_length_20 : decode b_J_length 20 = .ok (.goto 4, 3) := by decide +kernel
theorem d_J_length_23 : decode b_J_length 23 = .ok (.iconst (-1), 1) := by decide +kernel
theorem d_J_length_24 : decode b_J_length 24 = .ok (.ireturn, 1) := by decide +kernel
theorem d_J_record_0 : decode b_J_record 0 = .ok (.aload_n 0, 1) := by decide +kernel
theorem d_J_record_1 : decode b_J_record 1 = .ok (.getfield 19, 3) := by decide +kernel
theorem d_J_record_4 : decode b_J_record 4 = .ok (.iload_n 1, 1) := by decide +kernel
theorem d_J_record_5 : decode b_J_record 5 = .ok (.invokevirtual 106, 3) := by decide +kernel
theorem d_J_record_8 : decode b_J_record 8 = .ok (.ifCond .eq 13, 3) := by decide +kernel
theorem d_J_record_11 : decode b_J_record 11 = .ok (.iload_n 2, 1) := by decide +kernel
theorem d_J_record_12 : decode b_J_record 12 = .ok (.ifCond .lt 9, 3) := by decide +kernel
theorem d_J_record_15 : decode b_J_record 15 = .ok (.iload_n 2, 1) := by decide +kernel
theorem d_J_record_16 : decode b_J_record 16 = .ok (.bipush 125, 2) := by decide +kernel
theorem d_J_record_18 : decode b_J_record 18 = .ok (.if_icmp .lt 5, 3) := by decide +kernel
theorem d_J_record_21 : decode b_J_record 21 = .ok (.lconst 0, 1) := by decide +kernel
theorem d_J_record_22 : decode b_J_record 22 = .ok (.lreturn, 1) := by decide +kernel
theorem d_J_record_23 : decode b_J_record 23 = .ok (.aload_n 0, 1) := by decide +kernel
theorem d_J_record_24 : decode b_J_record 24 = .ok (.getfield 40, 3) := by decide +kernel
theorem d_J_record_27 : decode b_J_record 27 = .ok (.invokestatic 140, 3) := by decide +kernel
theorem d_J_record_30 : decode b_J_record 30 = .ok (.aload_n 0, 1) := by decide +kernel
theorem d_J_record_31 : decode b_J_record 31 = .ok (.getfield 19, 3) := by decide +kernel
theorem d_J_record_34 : decode b_J_record 34 = .ok (.getfield 143, 3) := by decide +kernel
theorem d_J_record_37 : decode b_J_record 37 = .ok (.iload_n 1, 1) := by decide +kernel
theorem d_J_record_38 : decode b_J_record 38 = .ok (.iaload, 1) := by decide +kernel
theorem d_J_record_39 : decode b_J_record 39 = .ok (.iadd, 1) := by decide +kernel
theorem d_J_record_40 : decode b_J_record 40 = .ok (.iconst 2, 1) := by decide +kernel
theorem d_J_record_41 : decode b_J_record 41 = .ok (.iadd, 1) := by decide +kernel
theorem d_J_record_42 : decode b_J_record 42 = .ok (.istore_n 3, 1) := by decide +kernel
theorem d_J_record_43 : decode b_J_record 43 = .ok (.aload_n 0, 1) := by decide +kernel
theorem d_J_record_44 : decode b_J_record 44 = .ok (.getfield 12, 3) := by decide +kernel
theorem d_J_record_47 : decode b_J_record 47 = .ok (.getfield 43, 3) := by decide +kernel
theorem d_J_record_50 : decode b_J_record 50 = .ok (.iload_n 3, 1) := by decide +kernel
theorem d_J_record_51 : decode b_J_record 51 = .ok (.bipush 8, 2) := by decide +kernel
theorem d_J_record_53 : decode b_J_record 53 = .ok (.iload_n 2, 1) := by decide +kernel
theorem d_J_record_54 : decode b_J_record 54 = .ok (.imul, 1) := by decide +kernel
theorem d_J_record_55 : decode b_J_record 55 = .ok (.iadd, 1) := by decide +kernel
theorem d_J_record_56 : decode b_J_record 56 = .ok (.iload_n 3, 1) := by decide +kernel
theorem d_J_record_57 : decode b_J_record 57 = .ok (.aload_n 0, 1) := by decide +kernel
theorem d_J_record_58 : decode b_J_record 58 = .ok (.getfield 19, 3) := by decide +kernel
theorem d_J_record_61 : decode b_J_record 61 = .ok (.getfield 136, 3) := by decide +kernel
theorem d_J_record_64 : decode b_J_record 64 = .ok (.iload_n 1, 1) := by decide +kernel
theorem d_J_record_65 : decode b_J_record 65 = .ok (.iaload, 1) := by decide +kernel
theorem d_J_record_66 : decode b_J_record 66 = .ok (.iadd, 1) := by decide +kernel
theorem d_J_record_67 : decode b_J_record 67 = .ok (.invokestatic 146, 3) := by decide +kernel
theorem d_J_record_70 : decode b_J_record 70 = .ok (.lreturn, 1) := by decide +kernel
theorem d_J_block_0 : decode b_J_block 0 = .ok (.iload_n 1, 1) := by decide +kernel
theorem d_J_block_1 : decode b_J_block 1 = .ok (.invokestatic 133, 3) := by decide +kernel
theorem d_J_block_4 : decode b_J_block 4 = .ok (.ifCond .eq 13, 3) := by decide +kernel
theorem d_J_block_7 : decode b_J_block 7 = .ok (.iload_n 2, 1) := by decide +kernel
theorem d_J_block_8 : decode b_J_block 8 = .ok (.ifCond .lt 9, 3) := by decide +kernel
theorem d_J_block_11 : decode b_J_block 11 = .ok (.iload_n 2, 1) := by decide +kernel
theorem d_J_block_12 : decode b_J_block 12 = .ok (.bipush 64, 2) := by decide +kernel
theorem d_J_block_14 : decode b_J_block 14 = .ok (.if_icmp .lt 5, 3) := by decide +kernel
theorem d_J_block_17 : decode b_J_block 17 = .ok (.lconst 0, 1) := by decide +kernel
theorem d_J_block_18 : decode b_J_block 18 = .ok (.lreturn, 1) := by decide +kernel
theorem d_J_block_19 : decode b_J_block 19 = .ok (.aload_n 0, 1) := by decide +kernel
theorem d_J_block_20 : decode b_J_block 20 = .ok (.getfield 12, 3) := by decide +kernel
theorem d_J_block_23 : decode b_J_block 23 = .ok (.getfield 43, 3) := by decide +kernel
theorem d_J_block_26 : decode b_J_block 26 = .ok (.iload_n 1, 1) := by decide +kernel
theorem d_J_block_27 : decode b_J_block 27 = .ok (.sipush 512, 3) := by decide +kernel
theorem d_J_block_30 : decode b_J_block 30 = .ok (.imul, 1) := by decide +kernel
theorem d_J_block_31 : decode b_J_block 31 = .ok (.bipush 8, 2) := by decide +kernel
theorem d_J_block_33 : decode b_J_block 33 = .ok (.iload_n 2, 1) := by decide +kernel
theorem d_J_block_34 : decode b_J_block 34 = .ok (.imul, 1) := by decide +kernel
theorem d_J_block_35 : decode b_J_block 35 = .ok (.iadd, 1) := by decide +kernel
theorem d_J_block_36 : decode b_J_block 36 = .ok (.ldc 46, 2) := by decide +kernel
theorem d_J_block_38 : decode b_J_block 38 = .ok (.invokestatic 146, 3) := by decide +kernel
theorem d_J_block_41 : decode b_J_block 41 = .ok (.lreturn, 1) := by decide +kernel
theorem d_J_look_0 : decode b_J_look 0 = .ok (.iload_n 1, 1) := by decide +kernel
theorem d_J_look_1 : decode b_J_look 1 = .ok (.tableswitch 111 0 8 #[51, 59, 67, 72, 77, 82, 90, 95, 103], 51) := by decide +kernel
theorem d_J_look_52 : decode b_J_look 52 = .ok (.aload_n 0, 1) := by decide +kernel
theorem d_J_look_53 : decode b_J_look 53 = .ok (.getfield 19, 3) := by decide +kernel
theorem d_J_look_56 : decode b_J_look 56 = .ok (.getfield 103, 3) := by decide +kernel
theorem d_J_look_59 : decode b_J_look 59 = .ok (.ireturn, 1) := by decide +kernel
theorem d_J_look_60 : decode b_J_look 60 = .ok (.aload_n 0, 1) := by decide +kernel
theorem d_J_look_61 : decode b_J_look 61 = .ok (.getfield 19, 3) := by decide +kernel
theorem d_J_look_64 : decode b_J_look 64 = .ok (.getfield 78, 3) := by decide +kernel
theorem d_J_look_67 : decode b_J_look 67 = .ok (.ireturn, 1) := by decide +kernel
theorem d_J_look_68 : decode b_J_look 68 = .ok (.aload_n 0, 1) := by decide +kernel
theorem d_J_look_69 : decode b_J_look 69 = .ok (.getfield 37, 3) := by decide +kernel
theorem d_J_look_72 : decode b_J_look 72 = .ok (.ireturn, 1) := by decide +kernel
theorem d_J_look_73 : decode b_J_look 73 = .ok (.aload_n 0, 1) := by decide +kernel
theorem d_J_look_74 : decode b_J_look 74 = .ok (.getfield 40, 3) := by decide +kernel
theorem d_J_look_77 : decode b_J_look 77 = .ok (.ireturn, 1) := by decide +kernel
theorem d_J_look_78 : decode b_J_look 78 = .ok (.aload_n 0, 1) := by decide +kernel
theorem d_J_look_79 : decode b_J_look 79 = .ok (.getfield 34, 3) := by decide +kernel
theorem d_J_look_82 : decode b_J_look 82 = .ok (.ireturn, 1) := by decide +kernel
theorem d_J_look_83 : decode b_J_look 83 = .ok (.aload_n 0, 1) := by decide +kernel
theorem d_J_look_84 : decode b_J_look 84 = .ok (.getfield 12, 3) := by decide +kernel
theorem d_J_look_87 : decode b_J_look 87 = .ok (.getfield 150, 3) := by decide +kernel
theorem d_J_look_90 : decode b_J_look 90 = .ok (.ireturn, 1) := by decide +kernel
theorem d_J_look_91 : decode b_J_look 91 = .ok (.aload_n 0, 1) := by decide +kernel
theorem d_J_look_92 : decode b_J_look 92 = .ok (.getfield 30, 3) := by decide +kernel
theorem d_J_look_95 : decode b_J_look 95 = .ok (.ireturn, 1) := by decide +kernel
theorem d_J_look_96 : decode b_J_look 96 = .ok (.aload_n 0, 1) := by decide +kernel
theorem d_J_look_97 : decode b_J_look 97 = .ok (.getfield 12, 3) := by decide +kernel
theorem d_J_look_100 : decode b_J_look 100 = .ok (.getfield 55, 3) := by decide +kernel
theorem d_J_look_103 : decode b_J_look 103 = .ok (.ireturn, 1) := by decide +kernel
theorem d_J_look_104 : decode b_J_look 104 = .ok (.aload_n 0, 1) := by decide +kernel
theorem d_J_look_105 : decode b_J_look 105 = .ok (.getfield 19, 3) := by decide +kernel
theorem d_J_look_108 : decode b_J_look 108 = .ok (.getfield 153, 3) := by decide +kernel
theorem d_J_look_111 : decode b_J_look 111 = .ok (.ireturn, 1) := by decide +kernel
theorem d_J_look_112 : decode b_J_look 112 = .ok (.iconst (-1), 1) := by decide +kernel
theorem d_J_look_113 : decode b_J_look 113 = .ok (.ireturn, 1) := by decide +kernel
theorem d_J_leave_0 : decode b_J_leave 0 = .ok (.aload_n 0, 1) := by decide +kernel
theorem d_J_leave_1 : decode b_J_leave 1 = .ok (.iload_n 1, 1) := by decide +kernel
theorem d_J_leave_2 : decode b_J_leave 2 = .ok (.putfield 34, 3) := by decide +kernel
theorem d_J_leave_5 : decode b_J_leave 5 = .ok (.aload_n 0, 1) := by decide +kernel
theorem d_J_leave_6 : decode b_J_leave 6 = .ok (.iconst 0, 1) := by decide +kernel
theorem d_J_leave_7 : decode b_J_leave 7 = .ok (.putfield 37, 3) := by decide +kernel
theorem d_J_leave_10 : decode b_J_leave 10 = .ok (.aload_n 0, 1) := by decide +kernel
theorem d_J_leave_11 : decode b_J_leave 11 = .ok (.iconst 0, 1) := by decide +kernel
theorem d_J_leave_12 : decode b_J_leave 12 = .ok (.putfield 40, 3) := by decide +kernel
theorem d_J_leave_15 : decode b_J_leave 15 = .ok (.aload_n 0, 1) := by decide +kernel
theorem d_J_leave_16 : decode b_J_leave 16 = .ok (.getfield 19, 3) := by decide +kernel
theorem d_J_leave_19 : decode b_J_leave 19 = .ok (.invokevirtual 156, 3) := by decide +kernel
theorem d_J_leave_22 : decode b_J_leave 22 = .ok (.return_, 1) := by decide +kernel
theorem d_J_goUp_0 : decode b_J_goUp 0 = .ok (.aload_n 0, 1) := by decide +kernel
theorem d_J_goUp_1 : decode b_J_goUp 1 = .ok (.iconst 2, 1) := by decide +kernel
theorem d_J_goUp_2 : decode b_J_goUp 2 = .ok (.putfield 34, 3) := by decide +kernel
theorem d_J_goUp_5 : decode b_J_goUp 5 = .ok (.aload_n 0, 1) := by decide +kernel
theorem d_J_goUp_6 : decode b_J_goUp 6 = .ok (.iload_n 1, 1) := by decide +kernel
theorem d_J_goUp_7 : decode b_J_goUp 7 = .ok (.putfield 37, 3) := by decide +kernel
theorem d_J_goUp_10 : decode b_J_goUp 10 = .ok (.aload_n 0, 1) := by decide +kernel
theorem d_J_goUp_11 : decode b_J_goUp 11 = .ok (.iload_n 2, 1) := by decide +kernel
theorem d_J_goUp_12 : decode b_J_goUp 12 = .ok (.putfield 40, 3) := by decide +kernel
theorem d_J_goUp_15 : decode b_J_goUp 15 = .ok (.aload_n 0, 1) := by decide +kernel
theorem d_J_goUp_16 : decode b_J_goUp 16 = .ok (.invokevirtual 159, 3) := by decide +kernel
theorem d_J_goUp_19 : decode b_J_goUp 19 = .ok (.return_, 1) := by decide +kernel
theorem d_J_readRecords_0 : decode b_J_readRecords 0 = .ok (.aload_n 0, 1) := by decide +kernel
theorem d_J_readRecords_1 : decode b_J_readRecords 1 = .ok (.getfield 19, 3) := by decide +kernel
theorem d_J_readRecords_4 : decode b_J_readRecords 4 = .ok (.invokevirtual 156, 3) := by decide +kernel
theorem d_J_readRecords_7 : decode b_J_readRecords 7 = .ok (.iconst 0, 1) := by decide +kernel
theorem d_J_readRecords_8 : decode b_J_readRecords 8 = .ok (.istore_n 1, 1) := by decide +kernel
theorem d_J_readRecords_9 : decode b_J_readRecords 9 = .ok (.iload_n 1, 1) := by decide +kernel
theorem d_J_readRecords_10 : decode b_J_readRecords 10 = .ok (.sipush 1984, 3) := by decide +kernel
theorem d_J_readRecords_13 : decode b_J_readRecords 13 = .ok (.if_icmp .ge 36, 3) := by decide +kernel
theorem d_J_readRecords_16 : decode b_J_readRecords 16 = .ok (.aload_n 0, 1) := by decide +kernel
theorem d_J_readRecords_17 : decode b_J_readRecords 17 = .ok (.aload_n 0, 1) := by decide +kernel
theorem d_J_readRecords_18 : decode b_J_readRecords 18 = .ok (.getfield 19, 3) := by decide +kernel
theorem d_J_readRecords_21 : decode b_J_readRecords 21 = .ok (.getfield 78, 3) := by decide +kernel
theorem d_J_readRecords_24 : decode b_J_readRecords 24 = .ok (.invokevirtual 162, 3) := by decide +kernel
theorem d_J_readRecords_27 : decode b_J_readRecords 27 = .ok (.istore_n 2, 1) := by decide +kernel
theorem d_J_readRecords_28 : decode b_J_readRecords 28 = .ok (.iload_n 2, 1) := by decide +kernel
theorem d_J_readRecords_29 : decode b_J_readRecords 29 = .ok (.ifCond .ne 6, 3) := by decide +kernel
theorem d_J_readRecords_32 : decode b_J_readRecords 32 = .ok (.goto 17, 3) := by decide +kernel
theorem d_J_readRecords_35 : decode b_J_readRecords 35 = .ok (.aload_n 0, 1) := by decide +kernel
theorem d_J_readRecords_36 : decode b_J_readRecords 36 = .ok (.getfield 19, 3) := by decide +kernel
theorem d_J_readRecords_39 : decode b_J_readRecords 39 = .ok (.iload_n 2, 1) := by decide +kernel
theorem d_J_readRecords_40 : decode b_J_readRecords 40 = .ok (.invokevirtual 100, 3) := by decide +kernel
theorem d_J_readRecords_43 : decode b_J_readRecords 43 = .ok (.iinc 1 1, 3) := by decide +kernel
theorem d_J_readRecords_46 : decode b_J_readRecords 46 = .ok (.goto (-37), 3) := by decide +kernel
theorem d_J_readRecords_49 : decode b_J_readRecords 49 = .ok (.return_, 1) := by decide +kernel
theorem d_J_lengthOfRecordAt_0 : decode b_J_lengthOfRecordAt 0 = .ok (.iload_n 1, 1) := by decide +kernel
theorem d_J_lengthOfRecordAt_1 : decode b_J_lengthOfRecordAt 1 = .ok (.sipush 15870, 3) := by decide +kernel
theorem d_J_lengthOfRecordAt_4 : decode b_J_lengthOfRecordAt 4 = .ok (.if_icmp .le 5, 3) := by decide +kernel
theorem d_J_lengthOfRecordAt_7 : decode b_J_lengthOfRecordAt 7 = .ok (.iconst 0, 1) := by decide +kernel
theorem d_J_lengthOfRecordAt_8 : decode b_J_lengthOfRecordAt 8 = .ok (.ireturn, 1) := by decide +kernel
theorem d_J_lengthOfRecordAt_9 : decode b_J_lengthOfRecordAt 9 = .ok (.aload_n 0, 1) := by decide +kernel
theorem d_J_lengthOfRecordAt_10 : decode b_J_lengthOfRecordAt 10 = .ok (.getfield 40, 3) := by decide +kernel
theorem d_J_lengthOfRecordAt_13 : decode b_J_lengthOfRecordAt 13 = .ok (.invokestatic 140, 3) := by decide +kernel
theorem d_J_lengthOfRecordAt_16 : decode b_J_lengthOfRecordAt 16 = .ok (.iload_n 1, 1) := by decide +kernel
theorem d_J_lengthOfRecordAt_17 : decode b_J_lengthOfRecordAt 17 = .ok (.iadd, 1) := by decide +kernel
theorem d_J_lengthOfRecordAt_18 : decode b_J_lengthOfRecordAt 18 = .ok (.istore_n 2, 1) := by decide +kernel
theorem d_J_lengthOfRecordAt_19 : decode b_J_lengthOfRecordAt 19 = .ok (.aload_n 0, 1) := by decide +kernel
theorem d_J_lengthOfRecordAt_20 : decode b_J_lengthOfRecordAt 20 = .ok (.getfield 12, 3) := by decide +kernel
theorem d_J_lengthOfRecordAt_23 : decode b_J_lengthOfRecordAt 23 = .ok (.getfield 43, 3) := by decide +kernel
theorem d_J_lengthOfRecordAt_26 : decode b_J_lengthOfRecordAt 26 = .ok (.iload_n 2, 1) := by decide +kernel
theorem d_J_lengthOfRecordAt_27 : decode b_J_lengthOfRecordAt 27 = .ok (.iconst 2, 1) := by decide +kernel
theorem d_J_lengthOfRecordAt_28 : decode b_J_lengthOfRecordAt 28 = .ok (.invokestatic 165, 3) := by decide +kernel
theorem d_J_lengthOfRecordAt_31 : decode b_J_lengthOfRecordAt 31 = .ok (.istore_n 3, 1) := by decide +kernel
theorem d_J_lengthOfRecordAt_32 : decode b_J_lengthOfRecordAt 32 = .ok (.iload_n 3, 1) := by decide +kernel
theorem d_J_lengthOfRecordAt_33 : decode b_J_lengthOfRecordAt 33 = .ok (.iconst 1, 1) := by decide +kernel
theorem d_J_lengthOfRecordAt_34 : decode b_J_lengthOfRecordAt 34 = .ok (.if_icmp .lt 22, 3) := by decide +kernel
theorem d_J_lengthOfRecordAt_37 : decode b_J_lengthOfRecordAt 37 = .ok (.iload_n 3, 1) := by decide +kernel
theorem d_J_lengthOfRecordAt_38 : decode b_J_lengthOfRecordAt 38 = .ok (.sipush 1000, 3) := by decide +kernel
theorem d_J_lengthOfRecordAt_41 : decode b_J_lengthOfRecordAt 41 = .ok (.if_icmp .gt 15, 3) := by decide +kernel
theorem d_J_lengthOfRecordAt_44 : decode b_J_lengthOfRecordAt 44 = .ok (.iload_n 3, 1) := by decide +kernel
theorem d_J_lengthOfRecordAt_45 : decode b_J_lengthOfRecordAt 45 = .ok (.invokestatic 74, 3) := by decide +kernel
theorem d_J_lengthOfRecordAt_48 : decode b_J_lengthOfRecordAt 48 = .ok (.sipush 15872, 3) := by decide +kernel
theorem d_J_lengthOfRecordAt_51 : decode b_J_lengthOfRecordAt 51 = .ok (.iload_n 1, 1) := by decide +kernel
theorem d_J_lengthOfRecordAt_52 : decode b_J_lengthOfRecordAt 52 = .ok (.isub, 1) := by decide +kernel
theorem d_J_lengthOfRecordAt_53 : decode b_J_lengthOfRecordAt 53 = .ok (.if_icmp .le 5, 3) := by decide +kernel
theorem d_J_lengthOfRecordAt_56 : decode b_J_lengthOfRecordAt 56 = .ok (.iconst 0, 1) := by decide +kernel
theorem d_J_lengthOfRecordAt_57 : decode b_J_lengthOfRecordAt 57 = .ok (.ireturn, 1) := by decide +kernel
theorem d_J_lengthOfRecordAt_58 : decode b_J_lengthOfRecordAt 58 = .ok (.iconst 2, 1) := by decide +kernel
theorem d_J_lengthOfRecordAt_59 : decode b_J_lengthOfRecordAt 59 = .ok (.iload_n 3, 1) := by decide +kernel
theorem d_J_lengthOfRecordAt_60 : decode b_J_lengthOfRecordAt 60 = .ok (.iadd, 1) := by decide +kernel
theorem d_J_lengthOfRecordAt_61 : decode b_J_lengthOfRecordAt 61 = .ok (.istore 4, 2) := by decide +kernel
theorem d_J_lengthOfRecordAt_63 : decode b_J_lengthOfRecordAt 63 = .ok (.aload_n 0, 1) := by decide +kernel
theorem d_J_lengthOfRecordAt_64 : decode b_J_lengthOfRecordAt 64 = .ok (.getfield 12, 3) := by decide +kernel
theorem d_J_lengthOfRecordAt_67 : decode b_J_lengthOfRecordAt 67 = .ok (.getfield 43, 3) := by decide +kernel
theorem d_J_lengthOfRecordAt_70 : decode b_J_lengthOfRecordAt 70 = .ok (.iload_n 2, 1) := by decide +kernel
theorem d_J_lengthOfRecordAt_71 : decode b_J_lengthOfRecordAt 71 = .ok (.iload 4, 2) := by decide +kernel
theorem d_J_lengthOfRecordAt_73 : decode b_J_lengthOfRecordAt 73 = .ok (.iadd, 1) := by decide +kernel
theorem d_J_lengthOfRecordAt_74 : decode b_J_lengthOfRecordAt 74 = .ok (.iconst 4, 1) := by decide +kernel
theorem d_J_lengthOfRecordAt_75 : decode b_J_lengthOfRecordAt 75 = .ok (.invokestatic 165, 3) := by decide +kernel
theorem d_J_lengthOfRecordAt_78 : decode b_J_lengthOfRecordAt 78 = .ok (.aload_n 0, 1) := by decide +kernel
theorem d_J_lengthOfRecordAt_79 : decode b_J_lengthOfRecordAt 79 = .ok (.getfield 12, 3) := by decide +kernel
theorem d_J_lengthOfRecordAt_82 : decode b_J_lengthOfRecordAt 82 = .ok (.getfield 43, 3) := by decide +kernel
theorem d_J_lengthOfRecordAt_85 : decode b_J_lengthOfRecordAt 85 = .ok (.iload_n 2, 1) := by decide +kernel
theorem d_J_lengthOfRecordAt_86 : decode b_J_lengthOfRecordAt 86 = .ok (.iload 4, 2) := by decide +kernel
theorem d_J_lengthOfRecordAt_88 : decode b_J_lengthOfRecordAt 88 = .ok (.invokestatic 169, 3) := by decide +kernel
theorem d_J_lengthOfRecordAt_91 : decode b_J_lengthOfRecordAt 91 = .ok (.if_icmp .ne 7, 3) := by decide +kernel
theorem d_J_lengthOfRecordAt_94 : decode b_J_lengthOfRecordAt 94 = .ok (.iconst 1, 1) := by decide +kernel
theorem d_J_lengthOfRecordAt_95 : decode b_J_lengthOfRecordAt 95 = .ok (.goto 4, 3) := by decide +kernel
theorem d_J_lengthOfRecordAt_98 : decode b_J_lengthOfRecordAt 98 = .ok (.iconst 0, 1) := by decide +kernel
theorem d_J_lengthOfRecordAt_99 : decode b_J_lengthOfRecordAt 99 = .ok (.istore 5, 2) := by decide +kernel
theorem d_J_lengthOfRecordAt_101 : decode b_J_lengthOfRecordAt 101 = .ok (.iload 5, 2) := by decide +kernel
theorem d_J_lengthOfRecordAt_103 : decode b_J_lengthOfRecordAt 103 = .ok (.ifCond .eq 7, 3) := by decide +kernel
theorem d_J_lengthOfRecordAt_106 : decode b_J_lengthOfRecordAt 106 = .ok (.iload_n 3, 1) := by decide +kernel
theorem d_J_lengthOfRecordAt_107 : decode b_J_lengthOfRecordAt 107 = .ok (.goto 4, 3) := by decide +kernel
theorem d_J_lengthOfRecordAt_110 : decode b_J_lengthOfRecordAt 110 = .ok (.iconst 0, 1) := by decide +kernel
theorem d_J_lengthOfRecordAt_111 : decode b_J_lengthOfRecordAt 111 = .ok (.ireturn, 1) := by decide +kernel
theorem d_J_generationOfHead_0 : decode b_J_generationOfHead 0 = .ok (.iload_n 1, 1) := by decide +kernel
theorem d_J_generationOfHead_1 : decode b_J_generationOfHead 1 = .ok (.sipush 512, 3) := by decide +kernel
theorem d_J_generationOfHead_4 : decode b_J_generationOfHead 4 = .ok (.imul, 1) := by decide +kernel
theorem d_J_generationOfHead_5 : decode b_J_generationOfHead 5 = .ok (.istore_n 2, 1) := by decide +kernel
theorem d_J_generationOfHead_6 : decode b_J_generationOfHead 6 = .ok (.aload_n 0, 1) := by decide +kernel
theorem d_J_generationOfHead_7 : decode b_J_generationOfHead 7 = .ok (.getfield 12, 3) := by decide +kernel
theorem d_J_generationOfHead_10 : decode b_J_generationOfHead 10 = .ok (.getfield 43, 3) := by decide +kernel
theorem d_J_generationOfHead_13 : decode b_J_generationOfHead 13 = .ok (.iload_n 2, 1) := by decide +kernel
theorem d_J_generationOfHead_14 : decode b_J_generationOfHead 14 = .ok (.iconst 4, 1) := by decide +kernel
theorem d_J_generationOfHead_15 : decode b_J_generationOfHead 15 = .ok (.invokestatic 165, 3) := by decide +kernel
theorem d_J_generationOfHead_18 : decode b_J_generationOfHead 18 = .ok (.istore_n 3, 1) := by decide +kernel
theorem d_J_generationOfHead_19 : decode b_J_generationOfHead 19 = .ok (.iload_n 3, 1) := by decide +kernel
theorem d_J_generationOfHead_20 : decode b_J_generationOfHead 20 = .ok (.iconst 0, 1) := by decide +kernel
theorem d_J_generationOfHead_21 : decode b_J_generationOfHead 21 = .ok (.invokestatic 172, 3) := by decide +kernel
theorem d_J_generationOfHead_24 : decode b_J_generationOfHead 24 = .ok (.if_icmp .eq 13, 3) := by decide +kernel
theorem d_J_generationOfHead_27 : decode b_J_generationOfHead 27 = .ok (.iload_n 3, 1) := by decide +kernel
theorem d_J_generationOfHead_28 : decode b_J_generationOfHead 28 = .ok (.iconst 1, 1) := by decide +kernel
theorem d_J_generationOfHead_29 : decode b_J_generationOfHead 29 = .ok (.invokestatic 172, 3) := by decide +kernel
theorem d_J_generationOfHead_32 : decode b_J_generationOfHead 32 = .ok (.if_icmp .eq 5, 3) := by decide +kernel
theorem d_J_generationOfHead_35 : decode b_J_generationOfHead 35 = .ok (.iconst 0, 1) := by decide +kernel
theorem d_J_generationOfHead_36 : decode b_J_generationOfHead 36 = .ok (.ireturn, 1) := by decide +kernel
theorem d_J_generationOfHead_37 : decode b_J_generationOfHead 37 = .ok (.aload_n 0, 1) := by decide +kernel
theorem d_J_generationOfHead_38 : decode b_J_generationOfHead 38 = .ok (.getfield 12, 3) := by decide +kernel
theorem d_J_generationOfHead_41 : decode b_J_generationOfHead 41 = .ok (.getfield 43, 3) := by decide +kernel
theorem d_J_generationOfHead_44 : decode b_J_generationOfHead 44 = .ok (.iload_n 2, 1) := by decide +kernel
theorem d_J_generationOfHead_45 : decode b_J_generationOfHead 45 = .ok (.bipush 8, 2) := by decide +kernel
theorem d_J_generationOfHead_47 : decode b_J_generationOfHead 47 = .ok (.iadd, 1) := by decide +kernel
theorem d_J_generationOfHead_48 : decode b_J_generationOfHead 48 = .ok (.iconst 4, 1) := by decide +kernel
theorem d_J_generationOfHead_49 : decode b_J_generationOfHead 49 = .ok (.invokestatic 165, 3) := by decide +kernel
theorem d_J_generationOfHead_52 : decode b_J_generationOfHead 52 = .ok (.aload_n 0, 1) := by decide +kernel
theorem d_J_generationOfHead_53 : decode b_J_generationOfHead 53 = .ok (.getfield 12, 3) := by decide +kernel
theorem d_J_generationOfHead_56 : decode b_J_generationOfHead 56 = .ok (.getfield 43, 3) := by decide +kernel
theorem d_J_generationOfHead_59 : decode b_J_generationOfHead 59 = .ok (.iload_n 2, 1) := by decide +kernel
theorem d_J_generationOfHead_60 : decode b_J_generationOfHead 60 = .ok (.bipush 8, 2) := by decide +kernel
theorem d_J_generationOfHead_62 : decode b_J_generationOfHead 62 = .ok (.invokestatic 169, 3) := by decide +kernel
theorem d_J_generationOfHead_65 : decode b_J_generationOfHead 65 = .ok (.if_icmp .eq 5, 3) := by decide +kernel
theorem d_J_generationOfHead_68 : decode b_J_generationOfHead 68 = .ok (.iconst 0, 1) := by decide +kernel
theorem d_J_generationOfHead_69 : decode b_J_generationOfHead 69 = .ok (.ireturn, 1) := by decide +kernel
theorem d_J_generationOfHead_70 : decode b_J_generationOfHead 70 = .ok (.aload_n 0, 1) := by decide +kernel
theorem d_J_generationOfHead_71 : decode b_J_generationOfHead 71 = .ok (.getfield 12, 3) := by decide +kernel
theorem d_J_generationOfHead_74 : decode b_J_generationOfHead 74 = .ok (.getfield 43, 3) := by decide +kernel
theorem d_J_generationOfHead_77 : decode b_J_generationOfHead 77 = .ok (.iload_n 2, 1) := by decide +kernel
theorem d_J_generationOfHead_78 : decode b_J_generationOfHead 78 = .ok (.iconst 4, 1) := by decide +kernel
theorem d_J_generationOfHead_79 : decode b_J_generationOfHead 79 = .ok (.iadd, 1) := by decide +kernel
theorem d_J_generationOfHead_80 : decode b_J_generationOfHead 80 = .ok (.iconst 4, 1) := by decide +kernel
theorem d_J_generationOfHead_81 : decode b_J_generationOfHead 81 = .ok (.invokestatic 165, 3) := by decide +kernel
theorem d_J_generationOfHead_84 : decode b_J_generationOfHead 84 = .ok (.iconst 0, 1) := by decide +kernel
theorem d_J_generationOfHead_85 : decode b_J_generationOfHead 85 = .ok (.invokestatic 175, 3) := by decide +kernel
theorem d_J_generationOfHead_88 : decode b_J_generationOfHead 88 = .ok (.ireturn, 1) := by decide +kernel
theorem d_J_halfOfHead_0 : decode b_J_halfOfHead 0 = .ok (.aload_n 0, 1) := by decide +kernel
theorem d_J_halfOfHead_1 : decode b_J_halfOfHead 1 = .ok (.getfield 12, 3) := by decide +kernel
theorem d_J_halfOfHead_4 : decode b_J_halfOfHead 4 = .ok (.getfield 43, 3) := by decide +kernel
theorem d_J_halfOfHead_7 : decode b_J_halfOfHead 7 = .ok (.iload_n 1, 1) := by decide +kernel
theorem d_J_halfOfHead_8 : decode b_J_halfOfHead 8 = .ok (.sipush 512, 3) := by decide +kernel
theorem d_J_halfOfHead_11 : decode b_J_halfOfHead 11 = .ok (.imul, 1) := by decide +kernel
theorem d_J_halfOfHead_12 : decode b_J_halfOfHead 12 = .ok (.iconst 2, 1) := by decide +kernel
theorem d_J_halfOfHead_13 : decode b_J_halfOfHead 13 = .ok (.iadd, 1) := by decide +kernel
theorem d_J_halfOfHead_14 : decode b_J_halfOfHead 14 = .ok (.iconst 1, 1) := by decide +kernel
theorem d_J_halfOfHead_15 : decode b_J_halfOfHead 15 = .ok (.invokestatic 165, 3) := by decide +kernel
theorem d_J_halfOfHead_18 : decode b_J_halfOfHead 18 = .ok (.ireturn, 1) := by decide +kernel
theorem d_J_planTape_0 : decode b_J_planTape 0 = .ok (.iload_n 1, 1) := by decide +kernel
theorem d_J_planTape_1 : decode b_J_planTape 1 = .ok (.sipush 512, 3) := by decide +kernel
theorem d_J_planTape_4 : decode b_J_planTape 4 = .ok (.imul, 1) := by decide +kernel
theorem d_J_planTape_5 : decode b_J_planTape 5 = .ok (.istore_n 3, 1) := by decide +kernel
theorem d_J_planTape_6 : decode b_J_planTape 6 = .ok (.aload_n 0, 1) := by decide +kernel
theorem d_J_planTape_7 : decode b_J_planTape 7 = .ok (.getfield 19, 3) := by decide +kernel
theorem d_J_planTape_10 : decode b_J_planTape 10 = .ok (.getfield 78, 3) := by decide +kernel
theorem d_J_planTape_13 : decode b_J_planTape 13 = .ok (.istore 4, 2) := by decide +kernel
theorem d_J_planTape_15 : decode b_J_planTape 15 = .ok (.aload_n 0, 1) := by decide +kernel
theorem d_J_planTape_16 : decode b_J_planTape 16 = .ok (.getfield 12, 3) := by decide +kernel
theorem d_J_planTape_19 : decode b_J_planTape 19 = .ok (.getfield 43, 3) := by decide +kernel
theorem d_J_planTape_22 : decode b_J_planTape 22 = .ok (.aload_n 0, 1) := by decide +kernel
theorem d_J_planTape_23 : decode b_J_planTape 23 = .ok (.getfield 40, 3) := by decide +kernel
theorem d_J_planTape_26 : decode b_J_planTape 26 = .ok (.invokestatic 140, 3) := by decide +kernel
theorem d_J_planTape_29 : decode b_J_planTape 29 = .ok (.iload_n 3, 1) := by decide +kernel
theorem d_J_planTape_30 : decode b_J_planTape 30 = .ok (.iadd, 1) := by decide +kernel
theorem d_J_planTape_31 : decode b_J_planTape 31 = .ok (.aload_n 0, 1) := by decide +kernel
theorem d_J_planTape_32 : decode b_J_planTape 32 = .ok (.getfield 27, 3) := by decide +kernel
theorem d_J_planTape_35 : decode b_J_planTape 35 = .ok (.iload_n 3, 1) := by decide +kernel
theorem d_J_planTape_36 : decode b_J_planTape 36 = .ok (.iload 4, 2) := by decide +kernel
theorem d_J_planTape_38 : decode b_J_planTape 38 = .ok (.iload_n 3, 1) := by decide +kernel
theorem d_J_planTape_39 : decode b_J_planTape 39 = .ok (.isub, 1) := by decide +kernel
theorem d_J_planTape_40 : decode b_J_planTape 40 = .ok (.invokestatic 181, 3) := by decide +kernel
theorem d_J_planTape_43 : decode b_J_planTape 43 = .ok (.aload_n 0, 1) := by decide +kernel
theorem d_J_planTape_44 : decode b_J_planTape 44 = .ok (.getfield 27, 3) := by decide +kernel
theorem d_J_planTape_47 : decode b_J_planTape 47 = .ok (.iload 4, 2) := by decide +kernel
theorem d_J_planTape_49 : decode b_J_planTape 49 = .ok (.iload_n 2, 1) := by decide +kernel
theorem d_J_planTape_50 : decode b_J_planTape 50 = .ok (.iconst 1, 1) := by decide +kernel
theorem d_J_planTape_51 : decode b_J_planTape 51 = .ok (.iadd, 1) := by decide +kernel
theorem d_J_planTape_52 : decode b_J_planTape 52 = .ok (.sipush 512, 3) := by decide +kernel
theorem d_J_planTape_55 : decode b_J_planTape 55 = .ok (.imul, 1) := by decide +kernel
theorem d_J_planTape_56 : decode b_J_planTape 56 = .ok (.invokestatic 47, 3) := by decide +kernel
theorem d_J_planTape_59 : decode b_J_planTape 59 = .ok (.aload_n 0, 1) := by decide +kernel
theorem d_J_planTape_60 : decode b_J_planTape 60 = .ok (.getfield 27, 3) := by decide +kernel
theorem d_J_planTape_63 : decode b_J_planTape 63 = .ok (.iload 4, 2) := by decide +kernel
theorem d_J_planTape_65 : decode b_J_planTape 65 = .ok (.iconst 2, 1) := by decide +kernel
theorem d_J_planTape_66 : decode b_J_planTape 66 = .ok (.aload_n 0, 1) := by decide +kernel
theorem d_J_planTape_67 : decode b_J_planTape 67 = .ok (.getfield 30, 3) := by decide +kernel
theorem d_J_planTape_70 : decode b_J_planTape 70 = .ok (.invokestatic 185, 3) := by decide +kernel
theorem d_J_planTape_73 : decode b_J_planTape 73 = .ok (.aload_n 0, 1) := by decide +kernel
theorem d_J_planTape_74 : decode b_J_planTape 74 = .ok (.getfield 23, 3) := by decide +kernel
theorem d_J_planTape_77 : decode b_J_planTape 77 = .ok (.iconst 0, 1) := by decide +kernel
theorem d_J_planTape_78 : decode b_J_planTape 78 = .ok (.aload_n 0, 1) := by decide +kernel
theorem d_J_planTape_79 : decode b_J_planTape 79 = .ok (.getfield 27, 3) := by decide +kernel
theorem d_J_planTape_82 : decode b_J_planTape 82 = .ok (.iload 4, 2) := by decide +kernel
theorem d_J_planTape_84 : decode b_J_planTape 84 = .ok (.iconst 2, 1) := by decide +kernel
theorem d_J_planTape_85 : decode b_J_planTape 85 = .ok (.iadd, 1) := by decide +kernel
theorem d_J_planTape_86 : decode b_J_planTape 86 = .ok (.aload_n 0, 1) := by decide +kernel
theorem d_J_planTape_87 : decode b_J_planTape 87 = .ok (.getfield 30, 3) := by decide +kernel
theorem d_J_planTape_90 : decode b_J_planTape 90 = .ok (.invokestatic 181, 3) := by decide +kernel
theorem d_J_planTape_93 : decode b_J_planTape 93 = .ok (.iconst 2, 1) := by decide +kernel
theorem d_J_planTape_94 : decode b_J_planTape 94 = .ok (.aload_n 0, 1) := by decide +kernel
theorem d_J_planTape_95 : decode b_J_planTape 95 = .ok (.getfield 30, 3) := by decide +kernel
theorem d_J_planTape_98 : decode b_J_planTape 98 = .ok (.iadd, 1) := by decide +kernel
theorem d_J_planTape_99 : decode b_J_planTape 99 = .ok (.istore 5, 2) := by decide +kernel
theorem d_J_planTape_101 : decode b_J_planTape 101 = .ok (.aload_n 0, 1) := by decide +kernel
theorem d_J_planTape_102 : decode b_J_planTape 102 = .ok (.getfield 27, 3) := by decide +kernel
theorem d_J_planTape_105 : decode b_J_planTape 105 = .ok (.iload 4, 2) := by decide +kernel
theorem d_J_planTape_107 : decode b_J_planTape 107 = .ok (.iload 5, 2) := by decide +kernel
theorem d_J_planTape_109 : decode b_J_planTape 109 = .ok (.iadd, 1) := by decide +kernel
theorem d_J_planTape_110 : decode b_J_planTape 110 = .ok (.iconst 4, 1) := by decide +kernel
theorem d_J_planTape_111 : decode b_J_planTape 111 = .ok (.aload_n 0, 1) := by decide +kernel
theorem d_J_planTape_112 : decode b_J_planTape 112 = .ok (.getfield 27, 3) := by decide +kernel
theorem d_J_planTape_115 : decode b_J_planTape 115 = .ok (.iload 4, 2) := by decide +kernel
theorem d_J_planTape_117 : decode b_J_planTape 117 = .ok (.iload 5, 2) := by decide +kernel
theorem d_J_planTape_119 : decode b_J_planTape 119 = .ok (.invokestatic 169, 3) := by decide +kernel
theorem d_J_planTape_122 : decode b_J_planTape 122 = .ok (.invokestatic 185, 3) := by decide +kernel
theorem d_J_planTape_125 : decode b_J_planTape 125 = .ok (.return_, 1) := by decide +kernel
theorem d_J_planUnmarked_0 : decode b_J_planUnmarked 0 = .ok (.aload_n 0, 1) := by decide +kernel
theorem d_J_planUnmarked_1 : decode b_J_planUnmarked 1 = .ok (.getfield 27, 3) := by decide +kernel
theorem d_J_planUnmarked_4 : decode b_J_planUnmarked 4 = .ok (.iconst 0, 1) := by decide +kernel
theorem d_J_planUnmarked_5 : decode b_J_planUnmarked 5 = .ok (.sipush 15872, 3) := by decide +kernel
theorem d_J_planUnmarked_8 : decode b_J_planUnmarked 8 = .ok (.invokestatic 47, 3) := by decide +kernel
theorem d_J_planUnmarked_11 : decode b_J_planUnmarked 11 = .ok (.iconst 0, 1) := by decide +kernel
theorem d_J_planUnmarked_12 : decode b_J_planUnmarked 12 = .ok (.istore_n 1, 1) := by decide +kernel
theorem d_J_planUnmarked_13 : decode b_J_planUnmarked 13 = .ok (.iconst 0, 1) := by decide +kernel
theorem d_J_planUnmarked_14 : decode b_J_planUnmarked 14 = .ok (.istore_n 2, 1) := by decide +kernel
theorem d_J_planUnmarked_15 : decode b_J_planUnmarked 15 = .ok (.iload_n 2, 1) := by decide +kernel
theorem d_J_planUnmarked_16 : decode b_J_planUnmarked 16 = .ok (.aload_n 0, 1) := by decide +kernel
theorem d_J_planUnmarked_17 : decode b_J_planUnmarked 17 = .ok (.getfield 19, 3) := by decide +kernel
theorem d_J_planUnmarked_20 : decode b_J_planUnmarked 20 = .ok (.getfield 103, 3) := by decide +kernel
theorem d_J_planUnmarked_23 : decode b_J_planUnmarked 23 = .ok (.if_icmp .ge 83, 3) := by decide +kernel
theorem d_J_planUnmarked_26 : decode b_J_planUnmarked 26 = .ok (.aload_n 0, 1) := by decide +kernel
theorem d_J_planUnmarked_27 : decode b_J_planUnmarked 27 = .ok (.getfield 19, 3) := by decide +kernel
theorem d_J_planUnmarked_30 : decode b_J_planUnmarked 30 = .ok (.getfield 188, 3) := by decide +kernel
theorem d_J_planUnmarked_33 : decode b_J_planUnmarked 33 = .ok (.iload_n 2, 1) := by decide +kernel
theorem d_J_planUnmarked_34 : decode b_J_planUnmarked 34 = .ok (.baload, 1) := by decide +kernel
theorem d_J_planUnmarked_35 : decode b_J_planUnmarked 35 = .ok (.ifCond .ne 65, 3) := by decide +kernel
theorem d_J_planUnmarked_38 : decode b_J_planUnmarked 38 = .ok (.iconst 2, 1) := by decide +kernel
theorem d_J_planUnmarked_39 : decode b_J_planUnmarked 39 = .ok (.aload_n 0, 1) := by decide +kernel
theorem d_J_planUnmarked_40 : decode b_J_planUnmarked 40 = .ok (.getfield 19, 3) := by decide +kernel
theorem d_J_planUnmarked_43 : decode b_J_planUnmarked 43 = .ok (.getfield 136, 3) := by decide +kernel
theorem d_J_planUnmarked_46 : decode b_J_planUnmarked 46 = .ok (.iload_n 2, 1) := by decide +kernel
theorem d_J_planUnmarked_47 : decode b_J_planUnmarked 47 = .ok (.iaload, 1) := by decide +kernel
theorem d_J_planUnmarked_48 : decode b_J_planUnmarked 48 = .ok (.iadd, 1) := by decide +kernel
theorem d_J_planUnmarked_49 : decode b_J_planUnmarked 49 = .ok (.iconst 4, 1) := by decide +kernel
theorem d_J_planUnmarked_50 : decode b_J_planUnmarked 50 = .ok (.iadd, 1) := by decide +kernel
theorem d_J_planUnmarked_51 : decode b_J_planUnmarked 51 = .ok (.istore_n 3, 1) := by decide +kernel
theorem d_J_planUnmarked_52 : decode b_J_planUnmarked 52 = .ok (.aload_n 0, 1) := by decide +kernel
theorem d_J_planUnmarked_53 : decode b_J_planUnmarked 53 = .ok (.getfield 12, 3) := by decide +kernel
theorem d_J_planUnmarked_56 : decode b_J_planUnmarked 56 = .ok (.getfield 43, 3) := by decide +kernel
theorem d_J_planUnmarked_59 : decode b_J_planUnmarked 59 = .ok (.aload_n 0, 1) := by decide +kernel
theorem d_J_planUnmarked_60 : decode b_J_planUnmarked 60 = .ok (.getfield 40, 3) := by decide +kernel
theorem d_J_planUnmarked_63 : decode b_J_planUnmarked 63 = .ok (.invokestatic 140, 3) := by decide +kernel
theorem d_J_planUnmarked_66 : decode b_J_planUnmarked 66 = .ok (.aload_n 0, 1) := by decide +kernel
theorem d_J_planUnmarked_67 : decode b_J_planUnmarked 67 = .ok (.getfield 19, 3) := by decide +kernel
theorem d_J_planUnmarked_70 : decode b_J_planUnmarked 70 = .ok (.getfield 143, 3) := by decide +kernel
theorem d_J_planUnmarked_73 : decode b_J_planUnmarked 73 = .ok (.iload_n 2, 1) := by decide +kernel
theorem d_J_planUnmarked_74 : decode b_J_planUnmarked 74 = .ok (.iaload, 1) := by decide +kernel
theorem d_J_planUnmarked_75 : decode b_J_planUnmarked 75 = .ok (.iadd, 1) := by decide +kernel
theorem d_J_planUnmarked_76 : decode b_J_planUnmarked 76 = .ok (.aload_n 0, 1) := by decide +kernel
theorem d_J_planUnmarked_77 : decode b_J_planUnmarked 77 = .ok (.getfield 27, 3) := by decide +kernel
theorem d_J_planUnmarked_80 : decode b_J_planUnmarked 80 = .ok (.iload_n 1, 1) := by decide +kernel
theorem d_J_planUnmarked_81 : decode b_J_planUnmarked 81 = .ok (.iload_n 3, 1) := by decide +kernel
theorem d_J_planUnmarked_82 : decode b_J_planUnmarked 82 = .ok (.invokestatic 181, 3) := by decide +kernel
theorem d_J_planUnmarked_85 : decode b_J_planUnmarked 85 = .ok (.iload_n 1, 1) := by decide +kernel
theorem d_J_planUnmarked_86 : decode b_J_planUnmarked 86 = .ok (.aload_n 0, 1) := by decide +kernel
theorem d_J_planUnmarked_87 : decode b_J_planUnmarked 87 = .ok (.getfield 19, 3) := by decide +kernel
theorem d_J_planUnmarked_90 : decode b_J_planUnmarked 90 = .ok (.getfield 136, 3) := by decide +kernel
theorem d_J_planUnmarked_93 : decode b_J_planUnmarked 93 = .ok (.iload_n 2, 1) := by decide +kernel
theorem d_J_planUnmarked_94 : decode b_J_planUnmarked 94 = .ok (.iaload, 1) := by decide +kernel
theorem d_J_planUnmarked_95 : decode b_J_planUnmarked 95 = .ok (.invokestatic 74, 3) := by decide +kernel
theorem d_J_planUnmarked_98 : decode b_J_planUnmarked 98 = .ok (.iadd, 1) := by decide +kernel
theorem d_J_planUnmarked_99 : decode b_J_planUnmarked 99 = .ok (.istore_n 1, 1) := by decide +kernel
theorem d_J_planUnmarked_100 : decode b_J_planUnmarked 100 = .ok (.iinc 2 1, 3) := by decide +kernel
theorem d_J_planUnmarked_103 : decode b_J_planUnmarked 103 = .ok (.goto (-88), 3) := by decide +kernel
theorem d_J_planUnmarked_106 : decode b_J_planUnmarked 106 = .ok (.iload_n 1, 1) := by decide +kernel
theorem d_J_planUnmarked_107 : decode b_J_planUnmarked 107 = .ok (.ireturn, 1) := by decide +kernel
theorem d_J_writeLastFirst_0 : decode b_J_writeLastFirst 0 = .ok (.iload_n 2, 1) := by decide +kernel
theorem d_J_writeLastFirst_1 : decode b_J_writeLastFirst 1 = .ok (.istore_n 3, 1) := by decide +kernel
theorem d_J_writeLastFirst_2 : decode b_J_writeLastFirst 2 = .ok (.iload_n 3, 1) := by decide +kernel
theorem d_J_writeLastFirst_3 : decode b_J_writeLastFirst 3 = .ok (.iload_n 1, 1) := by decide +kernel
theorem d_J_writeLastFirst_4 : decode b_J_writeLastFirst 4 = .ok (.if_icmp .lt 39, 3) := by decide +kernel
theorem d_J_writeLastFirst_7 : decode b_J_writeLastFirst 7 = .ok (.aload_n 0, 1) := by decide +kernel
theorem d_J_writeLastFirst_8 : decode b_J_writeLastFirst 8 = .ok (.getfield 12, 3) := by decide +kernel
theorem d_J_writeLastFirst_11 : decode b_J_writeLastFirst 11 = .ok (.aload_n 0, 1) := by decide +kernel
theorem d_J_writeLastFirst_12 : decode b_J_writeLastFirst 12 = .ok (.getfield 40, 3) := by decide +kernel
theorem d_J_writeLastFirst_15 : decode b_J_writeLastFirst 15 = .ok (.invokestatic 192, 3) := by decide +kernel
theorem d_J_writeLastFirst_18 : decode b_J_writeLastFirst 18 = .ok (.iload_n 3, 1) := by decide +kernel
theorem d_J_writeLastFirst_19 : decode b_J_writeLastFirst 19 = .ok (.iadd, 1) := by decide +kernel
theorem d_J_writeLastFirst_20 : decode b_J_writeLastFirst 20 = .ok (.aload_n 0, 1) := by decide +kernel
theorem d_J_writeLastFirst_21 : decode b_J_writeLastFirst 21 = .ok (.getfield 27, 3) := by decide +kernel
theorem d_J_writeLastFirst_24 : decode b_J_writeLastFirst 24 = .ok (.iload_n 3, 1) := by decide +kernel
theorem d_J_writeLastFirst_25 : decode b_J_writeLastFirst 25 = .ok (.sipush 512, 3) := by decide +kernel
theorem d_J_writeLastFirst_28 : decode b_J_writeLastFirst 28 = .ok (.imul, 1) := by decide +kernel
theorem d_J_writeLastFirst_29 : decode b_J_writeLastFirst 29 = .ok (.invokevirtual 195, 3) := by decide +kernel
theorem d_J_writeLastFirst_32 : decode b_J_writeLastFirst 32 = .ok (.ifCond .ne 5, 3) := by decide +kernel
theorem d_J_writeLastFirst_35 : decode b_J_writeLastFirst 35 = .ok (.iconst 0, 1) := by decide +kernel
theorem d_J_writeLastFirst_36 : decode b_J_writeLastFirst 36 = .ok (.ireturn, 1) := by decide +kernel
theorem d_J_writeLastFirst_37 : decode b_J_writeLastFirst 37 = .ok (.iinc 3 (-1), 3) := by decide +kernel
theorem d_J_writeLastFirst_40 : decode b_J_writeLastFirst 40 = .ok (.goto (-38), 3) := by decide +kernel
theorem d_J_writeLastFirst_43 : decode b_J_writeLastFirst 43 = .ok (.iconst 1, 1) := by decide +kernel
theorem d_J_writeLastFirst_44 : decode b_J_writeLastFirst 44 = .ok (.ireturn, 1) := by decide +kernel
theorem d_J_writeFirstFirst_0 : decode b_J_writeFirstFirst 0 = .ok (.iconst 0, 1) := by decide +kernel
theorem d_J_writeFirstFirst_1 : decode b_J_writeFirstFirst 1 = .ok (.istore_n 3, 1) := by decide +kernel
theorem d_J_writeFirstFirst_2 : decode b_J_writeFirstFirst 2 = .ok (.iload_n 3, 1) := by decide +kernel
theorem d_J_writeFirstFirst_3 : decode b_J_writeFirstFirst 3 = .ok (.iload_n 2, 1) := by decide +kernel
theorem d_J_writeFirstFirst_4 : decode b_J_writeFirstFirst 4 = .ok (.if_icmp .gt 36, 3) := by decide +kernel
theorem d_J_writeFirstFirst_7 : decode b_J_writeFirstFirst 7 = .ok (.aload_n 0, 1) := by decide +kernel
theorem d_J_writeFirstFirst_8 : decode b_J_writeFirstFirst 8 = .ok (.getfield 12, 3) := by decide +kernel
theorem d_J_writeFirstFirst_11 : decode b_J_writeFirstFirst 11 = .ok (.iload_n 1, 1) := by decide +kernel
theorem d_J_writeFirstFirst_12 : decode b_J_writeFirstFirst 12 = .ok (.invokestatic 192, 3) := by decide +kernel
theorem d_J_writeFirstFirst_15 : decode b_J_writeFirstFirst 15 = .ok (.iload_n 3, 1) := by decide +kernel
theorem d_J_writeFirstFirst_16 : decode b_J_writeFirstFirst 16 = .ok (.iadd, 1) := by decide +kernel
theorem d_J_writeFirstFirst_17 : decode b_J_writeFirstFirst 17 = .ok (.aload_n 0, 1) := by decide +kernel
theorem d_J_writeFirstFirst_18 : decode b_J_writeFirstFirst 18 = .ok (.getfield 27, 3) := by decide +kernel
theorem d_J_writeFirstFirst_21 : decode b_J_writeFirstFirst 21 = .ok (.iload_n 3, 1) := by decide +kernel
theorem d_J_writeFirstFirst_22 : decode b_J_writeFirstFirst 22 = .ok (.sipush 512, 3) := by decide +kernel
theorem d_J_writeFirstFirst_25 : decode b_J_writeFirstFirst 25 = .ok (.imul, 1) := by decide +kernel
theorem d_J_writeFirstFirst_26 : decode b_J_writeFirstFirst 26 = .ok (.invokevirtual 195, 3) := by decide +kernel
theorem d_J_writeFirstFirst_29 : decode b_J_writeFirstFirst 29 = .ok (.ifCond .ne 5, 3) := by decide +kernel
theorem d_J_writeFirstFirst_32 : decode b_J_writeFirstFirst 32 = .ok (.iconst 0, 1) := by decide +kernel
theorem d_J_writeFirstFirst_33 : decode b_J_writeFirstFirst 33 = .ok (.ireturn, 1) := by decide +kernel
theorem d_J_writeFirstFirst_34 : decode b_J_writeFirstFirst 34 = .ok (.iinc 3 1, 3) := by decide +kernel
theorem d_J_writeFirstFirst_37 : decode b_J_writeFirstFirst 37 = .ok (.goto (-35), 3) := by decide +kernel
theorem d_J_writeFirstFirst_40 : decode b_J_writeFirstFirst 40 = .ok (.iconst 1, 1) := by decide +kernel
theorem d_J_writeFirstFirst_41 : decode b_J_writeFirstFirst 41 = .ok (.ireturn, 1) := by decide +kernel
theorem d_J_writeHead_0 : decode b_J_writeHead 0 = .ok (.aload_n 0, 1) := by decide +kernel
theorem d_J_writeHead_1 : decode b_J_writeHead 1 = .ok (.getfield 27, 3) := by decide +kernel
theorem d_J_writeHead_4 : decode b_J_writeHead 4 = .ok (.iconst 0, 1) := by decide +kernel
theorem d_J_writeHead_5 : decode b_J_writeHead 5 = .ok (.sipush 512, 3) := by decide +kernel
theorem d_J_writeHead_8 : decode b_J_writeHead 8 = .ok (.invokestatic 47, 3) := by decide +kernel
theorem d_J_writeHead_11 : decode b_J_writeHead 11 = .ok (.aload_n 0, 1) := by decide +kernel
theorem d_J_writeHead_12 : decode b_J_writeHead 12 = .ok (.getfield 27, 3) := by decide +kernel
theorem d_J_writeHead_15 : decode b_J_writeHead 15 = .ok (.iconst 0, 1) := by decide +kernel
theorem d_J_writeHead_16 : decode b_J_writeHead 16 = .ok (.iload_n 1, 1) := by decide +kernel
theorem d_J_writeHead_17 : decode b_J_writeHead 17 = .ok (.iload_n 2, 1) := by decide +kernel
theorem d_J_writeHead_18 : decode b_J_writeHead 18 = .ok (.invokestatic 51, 3) := by decide +kernel
theorem d_J_writeHead_21 : decode b_J_writeHead 21 = .ok (.aload_n 0, 1) := by decide +kernel
theorem d_J_writeHead_22 : decode b_J_writeHead 22 = .ok (.getfield 12, 3) := by decide +kernel
theorem d_J_writeHead_25 : decode b_J_writeHead 25 = .ok (.iload_n 1, 1) := by decide +kernel
theorem d_J_writeHead_26 : decode b_J_writeHead 26 = .ok (.iconst 1, 1) := by decide +kernel
theorem d_J_writeHead_27 : decode b_J_writeHead 27 = .ok (.iand, 1) := by decide +kernel
theorem d_J_writeHead_28 : decode b_J_writeHead 28 = .ok (.aload_n 0, 1) := by decide +kernel
theorem d_J_writeHead_29 : decode b_J_writeHead 29 = .ok (.getfield 27, 3) := by decide +kernel
theorem d_J_writeHead_32 : decode b_J_writeHead 32 = .ok (.iconst 0, 1) := by decide +kernel
theorem d_J_writeHead_33 : decode b_J_writeHead 33 = .ok (.invokevirtual 195, 3) := by decide +kernel
theorem d_J_writeHead_36 : decode b_J_writeHead 36 = .ok (.ireturn, 1) := by decide +kernel
theorem d_J_putHead_0 : decode b_J_putHead 0 = .ok (.aload_n 0, 1) := by decide +kernel
theorem d_J_putHead_1 : decode b_J_putHead 1 = .ok (.iload_n 1, 1) := by decide +kernel
theorem d_J_putHead_2 : decode b_J_putHead 2 = .ok (.iconst 4, 1) := by decide +kernel
theorem d_J_putHead_3 : decode b_J_putHead 3 = .ok (.iload_n 3, 1) := by decide +kernel
theorem d_J_putHead_4 : decode b_J_putHead 4 = .ok (.invokestatic 172, 3) := by decide +kernel
theorem d_J_putHead_7 : decode b_J_putHead 7 = .ok (.invokestatic 185, 3) := by decide +kernel
theorem d_J_putHead_10 : decode b_J_putHead 10 = .ok (.aload_n 0, 1) := by decide +kernel
theorem d_J_putHead_11 : decode b_J_putHead 11 = .ok (.iload_n 1, 1) := by decide +kernel
theorem d_J_putHead_12 : decode b_J_putHead 12 = .ok (.iconst 4, 1) := by decide +kernel
theorem d_J_putHead_13 : decode b_J_putHead 13 = .ok (.iadd, 1) := by decide +kernel
theorem d_J_putHead_14 : decode b_J_putHead 14 = .ok (.iconst 4, 1) := by decide +kernel
theorem d_J_putHead_15 : decode b_J_putHead 15 = .ok (.iload_n 2, 1) := by decide +kernel
theorem d_J_putHead_16 : decode b_J_putHead 16 = .ok (.invokestatic 185, 3) := by decide +kernel
theorem d_J_putHead_19 : decode b_J_putHead 19 = .ok (.aload_n 0, 1) := by decide +kernel
theorem d_J_putHead_20 : decode b_J_putHead 20 = .ok (.iload_n 1, 1) := by decide +kernel
theorem d_J_putHead_21 : decode b_J_putHead 21 = .ok (.bipush 8, 2) := by decide +kernel
theorem d_J_putHead_23 : decode b_J_putHead 23 = .ok (.iadd, 1) := by decide +kernel
theorem d_J_putHead_24 : decode b_J_putHead 24 = .ok (.iconst 4, 1) := by decide +kernel
theorem d_J_putHead_25 : decode b_J_putHead 25 = .ok (.aload_n 0, 1) := by decide +kernel
theorem d_J_putHead_26 : decode b_J_putHead 26 = .ok (.iload_n 1, 1) := by decide +kernel
theorem d_J_putHead_27 : decode b_J_putHead 27 = .ok (.bipush 8, 2) := by decide +kernel
theorem d_J_putHead_29 : decode b_J_putHead 29 = .ok (.invokestatic 169, 3) := by decide +kernel
theorem d_J_putHead_32 : decode b_J_putHead 32 = .ok (.invokestatic 185, 3) := by decide +kernel
theorem d_J_putHead_35 : decode b_J_putHead 35 = .ok (.return_, 1) := by decide +kernel
theorem d_J_headBegin_0 : decode b_J_headBegin 0 = .ok (.sipush 12618, 3) := by decide +kernel
theorem d_J_headBegin_3 : decode b_J_headBegin 3 = .ok (.iload_n 0, 1) := by decide +kernel
theorem d_J_headBegin_4 : decode b_J_headBegin 4 = .ok (.bipush 16, 2) := by decide +kernel
theorem d_J_headBegin_6 : decode b_J_headBegin 6 = .ok (.ishl, 1) := by decide +kernel
theorem d_J_headBegin_7 : decode b_J_headBegin 7 = .ok (.ior, 1) := by decide +kernel
theorem d_J_headBegin_8 : decode b_J_headBegin 8 = .ok (.ireturn, 1) := by decide +kernel
theorem d_J_isBlock_0 : decode b_J_isBlock 0 = .ok (.iload_n 0, 1) := by decide +kernel
theorem d_J_isBlock_1 : decode b_J_isBlock 1 = .ok (.ifCond .lt 13, 3) := by decide +kernel
theorem d_J_isBlock_4 : decode b_J_isBlock 4 = .ok (.iload_n 0, 1) := by decide +kernel
theorem d_J_isBlock_5 : decode b_J_isBlock 5 = .ok (.bipush 64, 2) := by decide +kernel
theorem d_J_isBlock_7 : decode b_J_isBlock 7 = .ok (.if_icmp .ge 7, 3) := by decide +kernel
theorem d_J_isBlock_10 : decode b_J_isBlock 10 = .ok (.iconst 1, 1) := by decide +kernel
theorem d_J_isBlock_11 : decode b_J_isBlock 11 = .ok (.goto 4, 3) := by decide +kernel
theorem d_J_isBlock_14 : decode b_J_isBlock 14 = .ok (.iconst 0, 1) := by decide +kernel
theorem d_J_isBlock_15 : decode b_J_isBlock 15 = .ok (.ireturn, 1) := by decide +kernel
theorem d_J_firstBlockOf_0 : decode b_J_firstBlockOf 0 = .ok (.iconst 2, 1) := by decide +kernel
theorem d_J_firstBlockOf_1 : decode b_J_firstBlockOf 1 = .ok (.iload_n 0, 1) := by decide +kernel
theorem d_J_firstBlockOf_2 : decode b_J_firstBlockOf 2 = .ok (.bipush 31, 2) := by decide +kernel
theorem d_J_firstBlockOf_4 : decode b_J_firstBlockOf 4 = .ok (.imul, 1) := by decide +kernel
theorem d_J_firstBlockOf_5 : decode b_J_firstBlockOf 5 = .ok (.iadd, 1) := by decide +kernel
theorem d_J_firstBlockOf_6 : decode b_J_firstBlockOf 6 = .ok (.ireturn, 1) := by decide +kernel
theorem d_J_firstByteOf_0 : decode b_J_firstByteOf 0 = .ok (.iload_n 0, 1) := by decide +kernel
theorem d_J_firstByteOf_1 : decode b_J_firstByteOf 1 = .ok (.invokestatic 192, 3) := by decide +kernel
theorem d_J_firstByteOf_4 : decode b_J_firstByteOf 4 = .ok (.sipush 512, 3) := by decide +kernel
theorem d_J_firstByteOf_7 : decode b_J_firstByteOf 7 = .ok (.imul, 1) := by decide +kernel
theorem d_J_firstByteOf_8 : decode b_J_firstByteOf 8 = .ok (.ireturn, 1) := by decide +kernel
theorem d_J_lastBlockOf_0 : decode b_J_lastBlockOf 0 = .ok (.iload_n 0, 1) := by decide +kernel
theorem d_J_lastBlockOf_1 : decode b_J_lastBlockOf 1 = .ok (.iconst 2, 1) := by decide +kernel
theorem d_J_lastBlockOf_2 : decode b_J_lastBlockOf 2 = .ok (.iadd, 1) := by decide +kernel
theorem d_J_lastBlockOf_3 : decode b_J_lastBlockOf 3 = .ok (.sipush 15872, 3) := by decide +kernel
theorem d_J_lastBlockOf_6 : decode b_J_lastBlockOf 6 = .ok (.invokestatic 199, 3) := by decide +kernel
theorem d_J_lastBlockOf_9 : decode b_J_lastBlockOf 9 = .ok (.iconst 1, 1) := by decide +kernel
theorem d_J_lastBlockOf_10 : decode b_J_lastBlockOf 10 = .ok (.isub, 1) := by decide +kernel
theorem d_J_lastBlockOf_11 : decode b_J_lastBlockOf 11 = .ok (.sipush 512, 3) := by decide +kernel
theorem d_J_lastBlockOf_14 : decode b_J_lastBlockOf 14 = .ok (.idiv, 1) := by decide +kernel
theorem d_J_lastBlockOf_15 : decode b_J_lastBlockOf 15 = .ok (.ireturn, 1) := by decide +kernel
theorem d_J_sizeOf_0 : decode b_J_sizeOf 0 = .ok (.iconst 2, 1) := by decide +kernel
theorem d_J_sizeOf_1 : decode b_J_sizeOf 1 = .ok (.iload_n 0, 1) := by decide +kernel
theorem d_J_sizeOf_2 : decode b_J_sizeOf 2 = .ok (.iadd, 1) := by decide +kernel
theorem d_J_sizeOf_3 : decode b_J_sizeOf 3 = .ok (.iconst 4, 1) := by decide +kernel
theorem d_J_sizeOf_4 : decode b_J_sizeOf 4 = .ok (.iadd, 1) := by decide +kernel
theorem d_J_sizeOf_5 : decode b_J_sizeOf 5 = .ok (.iload_n 0, 1) := by decide +kernel
theorem d_J_sizeOf_6 : decode b_J_sizeOf 6 = .ok (.iconst 1, 1) := by decide +kernel
theorem d_J_sizeOf_7 : decode b_J_sizeOf 7 = .ok (.iand, 1) := by decide +kernel
theorem d_J_sizeOf_8 : decode b_J_sizeOf 8 = .ok (.iadd, 1) := by decide +kernel
theorem d_J_sizeOf_9 : decode b_J_sizeOf 9 = .ok (.ireturn, 1) := by decide +kernel
theorem d_J_hasBytes_0 : decode b_J_hasBytes 0 = .ok (.iload_n 1, 1) := by decide +kernel
theorem d_J_hasBytes_1 : decode b_J_hasBytes 1 = .ok (.ifCond .lt 19, 3) := by decide +kernel
theorem d_J_hasBytes_4 : decode b_J_hasBytes 4 = .ok (.iload_n 2, 1) := by decide +kernel
theorem d_J_hasBytes_5 : decode b_J_hasBytes 5 = .ok (.ifCond .lt 15, 3) := by decide +kernel
theorem d_J_hasBytes_8 : decode b_J_hasBytes 8 = .ok (.iload_n 2, 1) := by decide +kernel
theorem d_J_hasBytes_9 : decode b_J_hasBytes 9 = .ok (.aload_n 0, 1) := by decide +kernel
theorem d_J_hasBytes_10 : decode b_J_hasBytes 10 = .ok (.arraylength, 1) := by decide +kernel
theorem d_J_hasBytes_11 : decode b_J_hasBytes 11 = .ok (.iload_n 1, 1) := by decide +kernel
theorem d_J_hasBytes_12 : decode b_J_hasBytes 12 = .ok (.isub, 1) := by decide +kernel
theorem d_J_hasBytes_13 : decode b_J_hasBytes 13 = .ok (.if_icmp .gt 7, 3) := by decide +kernel
theorem d_J_hasBytes_16 : decode b_J_hasBytes 16 = .ok (.iconst 1, 1) := by decide +kernel
theorem d_J_hasBytes_17 : decode b_J_hasBytes 17 = .ok (.goto 4, 3) := by decide +kernel
theorem d_J_hasBytes_20 : decode b_J_hasBytes 20 = .ok (.iconst 0, 1) := by decide +kernel
theorem d_J_hasBytes_21 : decode b_J_hasBytes 21 = .ok (.ireturn, 1) := by decide +kernel
theorem d_J_copyBytes_0 : decode b_J_copyBytes 0 = .ok (.aload_n 0, 1) := by decide +kernel
theorem d_J_copyBytes_1 : decode b_J_copyBytes 1 = .ok (.iload_n 1, 1) := by decide +kernel
theorem d_J_copyBytes_2 : decode b_J_copyBytes 2 = .ok (.iload 4, 2) := by decide +kernel
theorem d_J_copyBytes_4 : decode b_J_copyBytes 4 = .ok (.invokestatic 202, 3) := by decide +kernel
theorem d_J_copyBytes_7 : decode b_J_copyBytes 7 = .ok (.ifCond .eq 22, 3) := by decide +kernel
theorem d_J_copyBytes_10 : decode b_J_copyBytes 10 = .ok (.aload_n 2, 1) := by decide +kernel
theorem d_J_copyBytes_11 : decode b_J_copyBytes 11 = .ok (.iload_n 3, 1) := by decide +kernel
theorem d_J_copyBytes_12 : decode b_J_copyBytes 12 = .ok (.iload 4, 2) := by decide +kernel
theorem d_J_copyBytes_14 : decode b_J_copyBytes 14 = .ok (.invokestatic 202, 3) := by decide +kernel
theorem d_J_copyBytes_17 : decode b_J_copyBytes 17 = .ok (.ifCond .eq 12, 3) := by decide +kernel
theorem d_J_copyBytes_20 : decode b_J_copyBytes 20 = .ok (.aload_n 0, 1) := by decide +kernel
theorem d_J_copyBytes_21 : decode b_J_copyBytes 21 = .ok (.iload_n 1, 1) := by decide +kernel
theorem d_J_copyBytes_22 : decode b_J_copyBytes 22 = .ok (.aload_n 2, 1) := by decide +kernel
theorem d_J_copyBytes_23 : decode b_J_copyBytes 23 = .ok (.iload_n 3, 1) := by decide +kernel
theorem d_J_copyBytes_24 : decode b_J_copyBytes 24 = .ok (.iload 4, 2) := by decide +kernel
theorem d_J_copyBytes_26 : decode b_J_copyBytes 26 = .ok (.invokestatic 206, 3) := by decide +kernel
theorem d_J_copyBytes_29 : decode b_J_copyBytes 29 = .ok (.return_, 1) := by decide +kernel
theorem d_J_clearBytes_0 : decode b_J_clearBytes 0 = .ok (.aload_n 0, 1) := by decide +kernel
theorem d_J_clearBytes_1 : decode b_J_clearBytes 1 = .ok (.iload_n 1, 1) := by decide +kernel
theorem d_J_clearBytes_2 : decode b_J_clearBytes 2 = .ok (.iload_n 2, 1) := by decide +kernel
theorem d_J_clearBytes_3 : decode b_J_clearBytes 3 = .ok (.iload_n 1, 1) := by decide +kernel
theorem d_J_clearBytes_4 : decode b_J_clearBytes 4 = .ok (.isub, 1) := by decide +kernel
theorem d_J_clearBytes_5 : decode b_J_clearBytes 5 = .ok (.invokestatic 202, 3) := by decide +kernel
theorem d_J_clearBytes_8 : decode b_J_clearBytes 8 = .ok (.ifCond .eq 10, 3) := by decide +kernel
theorem d_J_clearBytes_11 : decode b_J_clearBytes 11 = .ok (.aload_n 0, 1) := by decide +kernel
theorem d_J_clearBytes_12 : decode b_J_clearBytes 12 = .ok (.iload_n 1, 1) := by decide +kernel
theorem d_J_clearBytes_13 : decode b_J_clearBytes 13 = .ok (.iload_n 2, 1) := by decide +kernel
theorem d_J_clearBytes_14 : decode b_J_clearBytes 14 = .ok (.iconst 0, 1) := by decide +kernel
theorem d_J_clearBytes_15 : decode b_J_clearBytes 15 = .ok (.invokestatic 212, 3) := by decide +kernel
theorem d_J_clearBytes_18 : decode b_J_clearBytes 18 = .ok (.return_, 1) := by decide +kernel
theorem d_J_checkOf_0 : decode b_J_checkOf 0 = .ok (.aload_n 0, 1) := by decide +kernel
theorem d_J_checkOf_1 : decode b_J_checkOf 1 = .ok (.iload_n 1, 1) := by decide +kernel
theorem d_J_checkOf_2 : decode b_J_checkOf 2 = .ok (.iload_n 2, 1) := by decide +kernel
theorem d_J_checkOf_3 : decode b_J_checkOf 3 = .ok (.invokestatic 202, 3) := by decide +kernel
theorem d_J_checkOf_6 : decode b_J_checkOf 6 = .ok (.ifCond .ne 5, 3) := by decide +kernel
theorem d_J_checkOf_9 : decode b_J_checkOf 9 = .ok (.iconst 0, 1) := by decide +kernel
theorem d_J_checkOf_10 : decode b_J_checkOf 10 = .ok (.ireturn, 1) := by decide +kernel
theorem d_J_checkOf_11 : decode b_J_checkOf 11 = .ok (.iconst (-1), 1) := by decide +kernel
theorem d_J_checkOf_12 : decode b_J_checkOf 12 = .ok (.istore_n 3, 1) := by decide +kernel
theorem d_J_checkOf_13 : decode b_J_checkOf 13 = .ok (.iload_n 1, 1) := by decide +kernel
theorem d_J_checkOf_14 : decode b_J_checkOf 14 = .ok (.istore 4, 2) := by decide +kernel
theorem d_J_checkOf_16 : decode b_J_checkOf 16 = .ok (.iload 4, 2) := by decide +kernel
theorem d_J_checkOf_18 : decode b_J_checkOf 18 = .ok (.iload_n 1, 1) := by decide +kernel
theorem d_J_checkOf_19 : decode b_J_checkOf 19 = .ok (.iload_n 2, 1) := by decide +kernel
theorem d_J_checkOf_20 : decode b_J_checkOf 20 = .ok (.iadd, 1) := by decide +kernel
theorem d_J_checkOf_21 : decode b_J_checkOf 21 = .ok (.if_icmp .ge 46, 3) := by decide +kernel
theorem d_J_checkOf_24 : decode b_J_checkOf 24 = .ok (.iload_n 3, 1) := by decide +kernel
theorem d_J_checkOf_25 : decode b_J_checkOf 25 = .ok (.aload_n 0, 1) := by decide +kernel
theorem d_J_checkOf_26 : decode b_J_checkOf 26 = .ok (.iload 4, 2) := by decide +kernel
theorem d_J_checkOf_28 : decode b_J_checkOf 28 = .ok (.baload, 1) := by decide +kernel
theorem d_J_checkOf_29 : decode b_J_checkOf 29 = .ok (.sipush 255, 3) := by decide +kernel
theorem d_J_checkOf_32 : decode b_J_checkOf 32 = .ok (.iand, 1) := by decide +kernel
theorem d_J_checkOf_33 : decode b_J_checkOf 33 = .ok (.ixor, 1) := by decide +kernel
theorem d_J_checkOf_34 : decode b_J_checkOf 34 = .ok (.istore_n 3, 1) := by decide +kernel
theorem d_J_checkOf_35 : decode b_J_checkOf 35 = .ok (.iload_n 3, 1) := by decide +kernel
theorem d_J_checkOf_36 : decode b_J_checkOf 36 = .ok (.iconst 4, 1) := by decide +kernel
theorem d_J_checkOf_37 : decode b_J_checkOf 37 = .ok (.iushr, 1) := by decide +kernel
theorem d_J_checkOf_38 : decode b_J_checkOf 38 = .ok (.getstatic 218, 3) := by decide +kernel
theorem d_J_checkOf_41 : decode b_J_checkOf 41 = .ok (.iload_n 3, 1) := by decide +kernel
theorem d_J_checkOf_42 : decode b_J_checkOf 42 = .ok (.bipush 15, 2) := by decide +kernel
theorem d_J_checkOf_44 : decode b_J_checkOf 44 = .ok (.iand, 1) := by decide +kernel
theorem d_J_checkOf_45 : decode b_J_checkOf 45 = .ok (.iaload, 1) := by decide +kernel
theorem d_J_checkOf_46 : decode b_J_checkOf 46 = .ok (.ixor, 1) := by decide +kernel
theorem d_J_checkOf_47 : decode b_J_checkOf 47 = .ok (.istore_n 3, 1) := by decide +kernel
theorem d_J_checkOf_48 : decode b_J_checkOf 48 = .ok (.iload_n 3, 1) := by decide +kernel
theorem d_J_checkOf_49 : decode b_J_checkOf 49 = .ok (.iconst 4, 1) := by decide +kernel
theorem d_J_checkOf_50 : decode b_J_checkOf 50 = .ok (.iushr, 1) := by decide +kernel
theorem d_J_checkOf_51 : decode b_J_checkOf 51 = .ok (.getstatic 218, 3) := by decide +kernel
theorem d_J_checkOf_54 : decode b_J_checkOf 54 = .ok (.iload_n 3, 1) := by decide +kernel
theorem d_J_checkOf_55 : decode b_J_checkOf 55 = .ok (.bipush 15, 2) := by decide +kernel
theorem d_J_checkOf_57 : decode b_J_checkOf 57 = .ok (.iand, 1) := by decide +kernel
theorem d_J_checkOf_58 : decode b_J_checkOf 58 = .ok (.iaload, 1) := by decide +kernel
theorem d_J_checkOf_59 : decode b_J_checkOf 59 = .ok (.ixor, 1) := by decide +kernel
theorem d_J_checkOf_60 : decode b_J_checkOf 60 = .ok (.istore_n 3, 1) := by decide +kernel
theorem d_J_checkOf_61 : decode b_J_checkOf 61 = .ok (.iinc 4 1, 3) := by decide +kernel
theorem d_J_checkOf_64 : decode b_J_checkOf 64 = .ok (.goto (-48), 3) := by decide +kernel
theorem d_J_checkOf_67 : decode b_J_checkOf 67 = .ok (.iload_n 3, 1) := by decide +kernel
theorem d_J_checkOf_68 : decode b_J_checkOf 68 = .ok (.iconst (-1), 1) := by decide +kernel
theorem d_J_checkOf_69 : decode b_J_checkOf 69 = .ok (.ixor, 1) := by decide +kernel
theorem d_J_checkOf_70 : decode b_J_checkOf 70 = .ok (.ireturn, 1) := by decide +kernel
theorem d_J_number_0 : decode b_J_number 0 = .ok (.aload_n 0, 1) := by decide +kernel
theorem d_J_number_1 : decode b_J_number 1 = .ok (.iload_n 1, 1) := by decide +kernel
theorem d_J_number_2 : decode b_J_number 2 = .ok (.iload_n 2, 1) := by decide +kernel
theorem d_J_number_3 : decode b_J_number 3 = .ok (.invokestatic 202, 3) := by decide +kernel
theorem d_J_number_6 : decode b_J_number 6 = .ok (.ifCond .ne 5, 3) := by decide +kernel
theorem d_J_number_9 : decode b_J_number 9 = .ok (.iconst 0, 1) := by decide +kernel
theorem d_J_number_10 : decode b_J_number 10 = .ok (.ireturn, 1) := by decide +kernel
theorem d_J_number_11 : decode b_J_number 11 = .ok (.iconst 0, 1) := by decide +kernel
theorem d_J_number_12 : decode b_J_number 12 = .ok (.istore_n 3, 1) := by decide +kernel
theorem d_J_number_13 : decode b_J_number 13 = .ok (.iload_n 2, 1) := by decide +kernel
theorem d_J_number_14 : decode b_J_number 14 = .ok (.iconst 1, 1) := by decide +kernel
theorem d_J_number_15 : decode b_J_number 15 = .ok (.isub, 1) := by decide +kernel
theorem d_J_number_16 : decode b_J_number 16 = .ok (.istore 4, 2) := by decide +kernel
theorem d_J_number_18 : decode b_J_number 18 = .ok (.iload 4, 2) := by decide +kernel
theorem d_J_number_20 : decode b_J_number 20 = .ok (.ifCond .lt 25, 3) := by decide +kernel
theorem d_J_number_23 : decode b_J_number 23 = .ok (.iload_n 3, 1) := by decide +kernel
theorem d_J_number_24 : decode b_J_number 24 = .ok (.bipush 8, 2) := by decide +kernel
theorem d_J_number_26 : decode b_J_number 26 = .ok (.ishl, 1) := by decide +kernel
theorem d_J_number_27 : decode b_J_number 27 = .ok (.aload_n 0, 1) := by decide +kernel
theorem d_J_number_28 : decode b_J_number 28 = .ok (.iload_n 1, 1) := by decide +kernel
theorem d_J_number_29 : decode b_J_number 29 = .ok (.iload 4, 2) := by decide +kernel
theorem d_J_number_31 : decode b_J_number 31 = .ok (.iadd, 1) := by decide +kernel
theorem d_J_number_32 : decode b_J_number 32 = .ok (.baload, 1) := by decide +kernel
theorem d_J_number_33 : decode b_J_number 33 = .ok (.sipush 255, 3) := by decide +kernel
theorem d_J_number_36 : decode b_J_number 36 = .ok (.iand, 1) := by decide +kernel
theorem d_J_number_37 : decode b_J_number 37 = .ok (.ior, 1) := by decide +kernel
theorem d_J_number_38 : decode b_J_number 38 = .ok (.istore_n 3, 1) := by decide +kernel
theorem d_J_number_39 : decode b_J_number 39 = .ok (.iinc 4 (-1), 3) := by decide +kernel
theorem d_J_number_42 : decode b_J_number 42 = .ok (.goto (-24), 3) := by decide +kernel
theorem d_J_number_45 : decode b_J_number 45 = .ok (.iload_n 3, 1) := by decide +kernel
theorem d_J_number_46 : decode b_J_number 46 = .ok (.ireturn, 1) := by decide +kernel
theorem d_J_putNumber_0 : decode b_J_putNumber 0 = .ok (.aload_n 0, 1) := by decide +kernel
theorem d_J_putNumber_1 : decode b_J_putNumber 1 = .ok (.iload_n 1, 1) := by decide +kernel
theorem d_J_putNumber_2 : decode b_J_putNumber 2 = .ok (.iload_n 2, 1) := by decide +kernel
theorem d_J_putNumber_3 : decode b_J_putNumber 3 = .ok (.invokestatic 202, 3) := by decide +kernel
theorem d_J_putNumber_6 : decode b_J_putNumber 6 = .ok (.ifCond .ne 4, 3) := by decide +kernel
theorem d_J_putNumber_9 : decode b_J_putNumber 9 = .ok (.return_, 1) := by decide +kernel
theorem d_J_putNumber_10 : decode b_J_putNumber 10 = .ok (.iconst 0, 1) := by decide +kernel
theorem d_J_putNumber_11 : decode b_J_putNumber 11 = .ok (.istore 4, 2) := by decide +kernel
theorem d_J_putNumber_13 : decode b_J_putNumber 13 = .ok (.iload 4, 2) := by decide +kernel
theorem d_J_putNumber_15 : decode b_J_putNumber 15 = .ok (.iload_n 2, 1) := by decide +kernel
theorem d_J_putNumber_16 : decode b_J_putNumber 16 = .ok (.if_icmp .ge 23, 3) := by decide +kernel
theorem d_J_putNumber_19 : decode b_J_putNumber 19 = .ok (.aload_n 0, 1) := by decide +kernel
theorem d_J_putNumber_20 : decode b_J_putNumber 20 = .ok (.iload_n 1, 1) := by decide +kernel
theorem d_J_putNumber_21 : decode b_J_putNumber 21 = .ok (.iload 4, 2) := by decide +kernel
theorem d_J_putNumber_23 : decode b_J_putNumber 23 = .ok (.iadd, 1) := by decide +kernel
theorem d_J_putNumber_24 : decode b_J_putNumber 24 = .ok (.iload_n 3, 1) := by decide +kernel
theorem d_J_putNumber_25 : decode b_J_putNumber 25 = .ok (.bipush 8, 2) := by decide +kernel
theorem d_J_putNumber_27 : decode b_J_putNumber 27 = .ok (.iload 4, 2) := by decide +kernel
theorem d_J_putNumber_29 : decode b_J_putNumber 29 = .ok (.imul, 1) := by decide +kernel
theorem d_J_putNumber_30 : decode b_J_putNumber 30 = .ok (.iushr, 1) := by decide +kernel
theorem d_J_putNumber_31 : decode b_J_putNumber 31 = .ok (.i2b, 1) := by decide +kernel
theorem d_J_putNumber_32 : decode b_J_putNumber 32 = .ok (.bastore, 1) := by decide +kernel
theorem d_J_putNumber_33 : decode b_J_putNumber 33 = .ok (.iinc 4 1, 3) := by decide +kernel
theorem d_J_putNumber_36 : decode b_J_putNumber 36 = .ok (.goto (-23), 3) := by decide +kernel
theorem d_J_putNumber_39 : decode b_J_putNumber 39 = .ok (.return_, 1) := by decide +kernel
theorem d_J_word_0 : decode b_J_word 0 = .ok (.lconst 0, 1) := by decide +kernel
theorem d_J_word_1 : decode b_J_word 1 = .ok (.lstore_n 3, 1) := by decide +kernel
theorem d_J_word_2 : decode b_J_word 2 = .ok (.iload_n 1, 1) := by decide +kernel
theorem d_J_word_3 : decode b_J_word 3 = .ok (.istore 5, 2) := by decide +kernel
theorem d_J_word_5 : decode b_J_word 5 = .ok (.iload 5, 2) := by decide +kernel
theorem d_J_word_7 : decode b_J_word 7 = .ok (.iload_n 1, 1) := by decide +kernel
theorem d_J_word_8 : decode b_J_word 8 = .ok (.bipush 8, 2) := by decide +kernel
theorem d_J_word_10 : decode b_J_word 10 = .ok (.iadd, 1) := by decide +kernel
theorem d_J_word_11 : decode b_J_word 11 = .ok (.if_icmp .ge 58, 3) := by decide +kernel
theorem d_J_word_14 : decode b_J_word 14 = .ok (.iload 5, 2) := by decide +kernel
theorem d_J_word_16 : decode b_J_word 16 = .ok (.ifCond .lt 20, 3) := by decide +kernel
theorem d_J_word_19 : decode b_J_word 19 = .ok (.iload 5, 2) := by decide +kernel
theorem d_J_word_21 : decode b_J_word 21 = .ok (.iload_n 2, 1) := by decide +kernel
theorem d_J_word_22 : decode b_J_word 22 = .ok (.if_icmp .ge 14, 3) := by decide +kernel
theorem d_J_word_25 : decode b_J_word 25 = .ok (.iload 5, 2) := by decide +kernel
theorem d_J_word_27 : decode b_J_word 27 = .ok (.aload_n 0, 1) := by decide +kernel
theorem d_J_word_28 : decode b_J_word 28 = .ok (.arraylength, 1) := by decide +kernel
theorem d_J_word_29 : decode b_J_word 29 = .ok (.if_icmp .ge 7, 3) := by decide +kernel
theorem d_J_word_32 : decode b_J_word 32 = .ok (.iconst 1, 1) := by decide +kernel
theorem d_J_word_33 : decode b_J_word 33 = .ok (.goto 4, 3) := by decide +kernel
theorem d_J_word_36 : decode b_J_word 36 = .ok (.iconst 0, 1) := by decide +kernel
theorem d_J_word_37 : decode b_J_word 37 = .ok (.istore 6, 2) := by decide +kernel
theorem d_J_word_39 : decode b_J_word 39 = .ok (.lload_n 3, 1) := by decide +kernel
theorem d_J_word_40 : decode b_J_word 40 = .ok (.bipush 8, 2) := by decide +kernel
theorem d_J_word_42 : decode b_J_word 42 = .ok (.lshl, 1) := by decide +kernel
theorem d_J_word_43 : decode b_J_word 43 = .ok (.iload 6, 2) := by decide +kernel
theorem d_J_word_45 : decode b_J_word 45 = .ok (.ifCond .eq 14, 3) := by decide +kernel
theorem d_J_word_48 : decode b_J_word 48 = .ok (.aload_n 0, 1) := by decide +kernel
theorem d_J_word_49 : decode b_J_word 49 = .ok (.iload 5, 2) := by decide +kernel
theorem d_J_word_51 : decode b_J_word 51 = .ok (.baload, 1) := by decide +kernel
theorem d_J_word_52 : decode b_J_word 52 = .ok (.sipush 255, 3) := by decide +kernel
theorem d_J_word_55 : decode b_J_word 55 = .ok (.iand, 1) := by decide +kernel
theorem d_J_word_56 : decode b_J_word 56 = .ok (.goto 4, 3) := by decide +kernel
theorem d_J_word_59 : decode b_J_word 59 = .ok (.iconst 0, 1) := by decide +kernel
theorem d_J_word_60 : decode b_J_word 60 = .ok (.i2l, 1) := by decide +kernel
theorem d_J_word_61 : decode b_J_word 61 = .ok (.lor, 1) := by decide +kernel
theorem d_J_word_62 : decode b_J_word 62 = .ok (.lstore_n 3, 1) := by decide +kernel
theorem d_J_word_63 : decode b_J_word 63 = .ok (.iinc 5 1, 3) := by decide +kernel
theorem d_J_word_66 : decode b_J_word 66 = .ok (.goto (-61), 3) := by decide +kernel
theorem d_J_word_69 : decode b_J_word 69 = .ok (.lload_n 3, 1) := by decide +kernel
theorem d_J_word_70 : decode b_J_word 70 = .ok (.lreturn, 1) := by decide +kernel
theorem d_D_init_0 : decode b_D_init 0 = .ok (.aload_n 0, 1) := by decide +kernel
theorem d_D_init_1 : decode b_D_init 1 = .ok (.invokespecial 3, 3) := by decide +kernel
theorem d_D_init_4 : decode b_D_init 4 = .ok (.aload_n 0, 1) := by decide +kernel
theorem d_D_init_5 : decode b_D_init 5 = .ok (.ldc 9, 2) := by decide +kernel
theorem d_D_init_7 : decode b_D_init 7 = .ok (.newarray .byte, 2) := by decide +kernel
theorem d_D_init_9 : decode b_D_init 9 = .ok (.putfield 10, 3) := by decide +kernel
theorem d_D_init_12 : decode b_D_init 12 = .ok (.aload_n 0, 1) := by decide +kernel
theorem d_D_init_13 : decode b_D_init 13 = .ok (.iconst (-1), 1) := by decide +kernel
theorem d_D_init_14 : decode b_D_init 14 = .ok (.putfield 16, 3) := by decide +kernel
theorem d_D_init_17 : decode b_D_init 17 = .ok (.aload_n 0, 1) := by decide +kernel
theorem d_D_init_18 : decode b_D_init 18 = .ok (.iconst 0, 1) := by decide +kernel
theorem d_D_init_19 : decode b_D_init 19 = .ok (.putfield 20, 3) := by decide +kernel
theorem d_D_init_22 : decode b_D_init 22 = .ok (.return_, 1) := by decide +kernel
theorem d_D_write_0 : decode b_D_write 0 = .ok (.aload_n 0, 1) := by decide +kernel
theorem d_D_write_1 : decode b_D_write 1 = .ok (.getfield 16, 3) := by decide +kernel
theorem d_D_write_4 : decode b_D_write 4 = .ok (.ifCond .ne 10, 3) := by decide +kernel
theorem d_D_write_7 : decode b_D_write 7 = .ok (.aload_n 0, 1) := by decide +kernel
theorem d_D_write_8 : decode b_D_write 8 = .ok (.iconst (-1), 1) := by decide +kernel
theorem d_D_write_9 : decode b_D_write 9 = .ok (.putfield 16, 3) := by decide +kernel
theorem d_D_write_12 : decode b_D_write 12 = .ok (.iconst 0, 1) := by decide +kernel
theorem d_D_write_13 : decode b_D_write 13 = .ok (.ireturn, 1) := by decide +kernel
theorem d_D_write_14 : decode b_D_write 14 = .ok (.aload_n 0, 1) := by decide +kernel
theorem d_D_write_15 : decode b_D_write 15 = .ok (.getfield 16, 3) := by decide +kernel
theorem d_D_write_18 : decode b_D_write 18 = .ok (.ifCond .le 13, 3) := by decide +kernel
theorem d_D_write_21 : decode b_D_write 21 = .ok (.aload_n 0, 1) := by decide +kernel
theorem d_D_write_22 : decode b_D_write 22 = .ok (.dup, 1) := by decide +kernel
theorem d_D_write_23 : decode b_D_write 23 = .ok (.getfield 16, 3) := by decide +kernel
theorem d_D_write_26 : decode b_D_write 26 = .ok (.iconst 1, 1) := by decide +kernel
theorem d_D_write_27 : decode b_D_write 27 = .ok (.isub, 1) := by decide +kernel
theorem d_D_write_28 : decode b_D_write 28 = .ok (.putfield 16, 3) := by decide +kernel
theorem d_D_write_31 : decode b_D_write 31 = .ok (.aload_n 2, 1) := by decide +kernel
theorem d_D_write_32 : decode b_D_write 32 = .ok (.iload_n 3, 1) := by decide +kernel
theorem d_D_write_33 : decode b_D_write 33 = .ok (.aload_n 0, 1) := by decide +kernel
theorem d_D_write_34 : decode b_D_write 34 = .ok (.getfield 10, 3) := by decide +kernel
theorem d_D_write_37 : decode b_D_write 37 = .ok (.iload_n 1, 1) := by decide +kernel
theorem d_D_write_38 : decode b_D_write 38 = .ok (.sipush 512, 3) := by decide +kernel
theorem d_D_write_41 : decode b_D_write 41 = .ok (.imul, 1) := by decide +kernel
theorem d_D_write_42 : decode b_D_write 42 = .ok (.sipush 512, 3) := by decide +kernel
theorem d_D_write_45 : decode b_D_write 45 = .ok (.invokestatic 23, 3) := by decide +kernel
theorem d_D_write_48 : decode b_D_write 48 = .ok (.aload_n 0, 1) := by decide +kernel
theorem d_D_write_49 : decode b_D_write 49 = .ok (.dup, 1) := by decide +kernel
theorem d_D_write_50 : decode b_D_write 50 = .ok (.getfield 20, 3) := by decide +kernel
theorem d_D_write_53 : decode b_D_write 53 = .ok (.iconst 1, 1) := by decide +kernel
theorem d_D_write_54 : decode b_D_write 54 = .ok (.iadd, 1) := by decide +kernel
theorem d_D_write_55 : decode b_D_write 55 = .ok (.putfield 20, 3) := by decide +kernel
theorem d_D_write_58 : decode b_D_write 58 = .ok (.iconst 1, 1) := by decide +kernel
theorem d_D_write_59 : decode b_D_write 59 = .ok (.ireturn, 1) := by decide +kernel
theorem d_R_init_0 : decode b_R_init 0 = .ok (.aload_n 0, 1) := by decide +kernel
theorem d_R_init_1 : decode b_R_init 1 = .ok (.invokespecial 3, 3) := by decide +kernel
theorem d_R_init_4 : decode b_R_init 4 = .ok (.aload_n 0, 1) := by decide +kernel
theorem d_R_init_5 : decode b_R_init 5 = .ok (.sipush 1984, 3) := by decide +kernel
theorem d_R_init_8 : decode b_R_init 8 = .ok (.newarray .int, 2) := by decide +kernel
theorem d_R_init_10 : decode b_R_init 10 = .ok (.putfield 9, 3) := by decide +kernel
theorem d_R_init_13 : decode b_R_init 13 = .ok (.aload_n 0, 1) := by decide +kernel
theorem d_R_init_14 : decode b_R_init 14 = .ok (.sipush 1984, 3) := by decide +kernel
theorem d_R_init_17 : decode b_R_init 17 = .ok (.newarray .int, 2) := by decide +kernel
theorem d_R_init_19 : decode b_R_init 19 = .ok (.putfield 15, 3) := by decide +kernel
theorem d_R_init_22 : decode b_R_init 22 = .ok (.aload_n 0, 1) := by decide +kernel
theorem d_R_init_23 : decode b_R_init 23 = .ok (.sipush 1984, 3) := by decide +kernel
theorem d_R_init_26 : decode b_R_init 26 = .ok (.newarray .boolean, 2) := by decide +kernel
theorem d_R_init_28 : decode b_R_init 28 = .ok (.putfield 18, 3) := by decide +kernel
theorem d_R_init_31 : decode b_R_init 31 = .ok (.aload_n 0, 1) := by decide +kernel
theorem d_R_init_32 : decode b_R_init 32 = .ok (.iconst 0, 1) := by decide +kernel
theorem d_R_init_33 : decode b_R_init 33 = .ok (.putfield 22, 3) := by decide +kernel
theorem d_R_init_36 : decode b_R_init 36 = .ok (.aload_n 0, 1) := by decide +kernel
theorem d_R_init_37 : decode b_R_init 37 = .ok (.iconst 0, 1) := by decide +kernel
theorem d_R_init_38 : decode b_R_init 38 = .ok (.putfield 26, 3) := by decide +kernel
theorem d_R_init_41 : decode b_R_init 41 = .ok (.aload_n 0, 1) := by decide +kernel
theorem d_R_init_42 : decode b_R_init 42 = .ok (.iconst 0, 1) := by decide +kernel
theorem d_R_init_43 : decode b_R_init 43 = .ok (.putfield 29, 3) := by decide +kernel
theorem d_R_init_46 : decode b_R_init 46 = .ok (.return_, 1) := by decide +kernel
theorem d_R_has_0 : decode b_R_has 0 = .ok (.iload_n 1, 1) := by decide +kernel
theorem d_R_has_1 : decode b_R_has 1 = .ok (.ifCond .lt 15, 3) := by decide +kernel
theorem d_R_has_4 : decode b_R_has 4 = .ok (.iload_n 1, 1) := by decide +kernel
theorem d_R_has_5 : decode b_R_has 5 = .ok (.aload_n 0, 1) := by decide +kernel
theorem d_R_has_6 : decode b_R_has 6 = .ok (.getfield 22, 3) := by decide +kernel
theorem d_R_has_9 : decode b_R_has 9 = .ok (.if_icmp .ge 7, 3) := by decide +kernel
theorem d_R_has_12 : decode b_R_has 12 = .ok (.iconst 1, 1) := by decide +kernel
theorem d_R_has_13 : decode b_R_has 13 = .ok (.goto 4, 3) := by decide +kernel
theorem d_R_has_16 : decode b_R_has 16 = .ok (.iconst 0, 1) := by decide +kernel
theorem d_R_has_17 : decode b_R_has 17 = .ok (.ireturn, 1) := by decide +kernel
theorem d_R_clear_0 : decode b_R_clear 0 = .ok (.aload_n 0, 1) := by decide +kernel
theorem d_R_clear_1 : decode b_R_clear 1 = .ok (.iconst 0, 1) := by decide +kernel
theorem d_R_clear_2 : decode b_R_clear 2 = .ok (.putfield 22, 3) := by decide +kernel
theorem d_R_clear_5 : decode b_R_clear 5 = .ok (.aload_n 0, 1) := by decide +kernel
theorem d_R_clear_6 : decode b_R_clear 6 = .ok (.iconst 0, 1) := by decide +kernel
theorem d_R_clear_7 : decode b_R_clear 7 = .ok (.putfield 26, 3) := by decide +kernel
theorem d_R_clear_10 : decode b_R_clear 10 = .ok (.aload_n 0, 1) := by decide +kernel
theorem d_R_clear_11 : decode b_R_clear 11 = .ok (.iconst 0, 1) := by decide +kernel
theorem d_R_clear_12 : decode b_R_clear 12 = .ok (.putfield 29, 3) := by decide +kernel
theorem d_R_clear_15 : decode b_R_clear 15 = .ok (.return_, 1) := by decide +kernel
theorem d_R_add_0 : decode b_R_add 0 = .ok (.aload_n 0, 1) := by decide +kernel
theorem d_R_add_1 : decode b_R_add 1 = .ok (.getfield 22, 3) := by decide +kernel
theorem d_R_add_4 : decode b_R_add 4 = .ok (.sipush 1984, 3) := by decide +kernel
theorem d_R_add_7 : decode b_R_add 7 = .ok (.if_icmp .lt 4, 3) := by decide +kernel
theorem d_R_add_10 : decode b_R_add 10 = .ok (.return_, 1) := by decide +kernel
theorem d_R_add_11 : decode b_R_add 11 = .ok (.aload_n 0, 1) := by decide +kernel
theorem d_R_add_12 : decode b_R_add 12 = .ok (.getfield 9, 3) := by decide +kernel
theorem d_R_add_15 : decode b_R_add 15 = .ok (.aload_n 0, 1) := by decide +kernel
theorem d_R_add_16 : decode b_R_add 16 = .ok (.getfield 22, 3) := by decide +kernel
theorem d_R_add_19 : decode b_R_add 19 = .ok (.aload_n 0, 1) := by decide +kernel
theorem d_R_add_20 : decode b_R_add 20 = .ok (.getfield 26, 3) := by decide +kernel
theorem d_R_add_23 : decode b_R_add 23 = .ok (.iastore, 1) := by decide +kernel
theorem d_R_add_24 : decode b_R_add 24 = .ok (.aload_n 0, 1) := by decide +kernel
theorem d_R_add_25 : decode b_R_add 25 = .ok (.getfield 15, 3) := by decide +kernel
theorem d_R_add_28 : decode b_R_add 28 = .ok (.aload_n 0, 1) := by decide +kernel
theorem d_R_add_29 : decode b_R_add 29 = .ok (.getfield 22, 3) := by decide +kernel
theorem d_R_add_32 : decode b_R_add 32 = .ok (.iload_n 1, 1) := by decide +kernel
theorem d_R_add_33 : decode b_R_add 33 = .ok (.iastore, 1) := by decide +kernel
theorem d_R_add_34 : decode b_R_add 34 = .ok (.aload_n 0, 1) := by decide +kernel
theorem d_R_add_35 : decode b_R_add 35 = .ok (.getfield 18, 3) := by decide +kernel
theorem d_R_add_38 : decode b_R_add 38 = .ok (.aload_n 0, 1) := by decide +kernel
theorem d_R_add_39 : decode b_R_add 39 = .ok (.getfield 22, 3) := by decide +kernel
theorem d_R_add_42 : decode b_R_add 42 = .ok (.iconst 0, 1) := by decide +kernel
theorem d_R_add_43 : decode b_R_add 43 = .ok (.bastore, 1) := by decide +kernel
theorem d_R_add_44 : decode b_R_add 44 = .ok (.aload_n 0, 1) := by decide +kernel
theorem d_R_add_45 : decode b_R_add 45 = .ok (.dup, 1) := by decide +kernel
theorem d_R_add_46 : decode b_R_add 46 = .ok (.getfield 22, 3) := by decide +kernel
theorem d_R_add_49 : decode b_R_add 49 = .ok (.iconst 1, 1) := by decide +kernel
theorem d_R_add_50 : decode b_R_add 50 = .ok (.iadd, 1) := by decide +kernel
theorem d_R_add_51 : decode b_R_add 51 = .ok (.putfield 22, 3) := by decide +kernel
theorem d_R_add_54 : decode b_R_add 54 = .ok (.aload_n 0, 1) := by decide +kernel
theorem d_R_add_55 : decode b_R_add 55 = .ok (.dup, 1) := by decide +kernel
theorem d_R_add_56 : decode b_R_add 56 = .ok (.getfield 26, 3) := by decide +kernel
theorem d_R_add_59 : decode b_R_add 59 = .ok (.iload_n 1, 1) := by decide +kernel
theorem d_R_add_60 : decode b_R_add 60 = .ok (.invokestatic 32, 3) := by decide +kernel
theorem d_R_add_63 : decode b_R_add 63 = .ok (.iadd, 1) := by decide +kernel
theorem d_R_add_64 : decode b_R_add 64 = .ok (.putfield 26, 3) := by decide +kernel
theorem d_R_add_67 : decode b_R_add 67 = .ok (.return_, 1) := by decide +kernel
theorem d_R_setMark_0 : decode b_R_setMark 0 = .ok (.aload_n 0, 1) := by decide +kernel
theorem d_R_setMark_1 : decode b_R_setMark 1 = .ok (.iload_n 1, 1) := by decide +kernel
theorem d_R_setMark_2 : decode b_R_setMark 2 = .ok (.invokevirtual 36, 3) := by decide +kernel
theorem d_R_setMark_5 : decode b_R_setMark 5 = .ok (.ifCond .eq 38, 3) := by decide +kernel
theorem d_R_setMark_8 : decode b_R_setMark 8 = .ok (.aload_n 0, 1) := by decide +kernel
theorem d_R_setMark_9 : decode b_R_setMark 9 = .ok (.getfield 18, 3) := by decide +kernel
theorem d_R_setMark_12 : decode b_R_setMark 12 = .ok (.iload_n 1, 1) := by decide +kernel
theorem d_R_setMark_13 : decode b_R_setMark 13 = .ok (.baload, 1) := by decide +kernel
theorem d_R_setMark_14 : decode b_R_setMark 14 = .ok (.iload_n 2, 1) := by decide +kernel
theorem d_R_setMark_15 : decode b_R_setMark 15 = .ok (.if_icmp .eq 28, 3) := by decide +kernel
theorem d_R_setMark_18 : decode b_R_setMark 18 = .ok (.aload_n 0, 1) := by decide +kernel
theorem d_R_setMark_19 : decode b_R_setMark 19 = .ok (.getfield 18, 3) := by decide +kernel
theorem d_R_setMark_22 : decode b_R_setMark 22 = .ok (.iload_n 1, 1) := by decide +kernel
theorem d_R_setMark_23 : decode b_R_setMark 23 = .ok (.iload_n 2, 1) := by decide +kernel
theorem d_R_setMark_24 : decode b_R_setMark 24 = .ok (.bastore, 1) := by decide +kernel
theorem d_R_setMark_25 : decode b_R_setMark 25 = .ok (.aload_n 0, 1) := by decide +kernel
theorem d_R_setMark_26 : decode b_R_setMark 26 = .ok (.dup, 1) := by decide +kernel
theorem d_R_setMark_27 : decode b_R_setMark 27 = .ok (.getfield 29, 3) := by decide +kernel
theorem d_R_setMark_30 : decode b_R_setMark 30 = .ok (.iload_n 2, 1) := by decide +kernel
theorem d_R_setMark_31 : decode b_R_setMark 31 = .ok (.ifCond .eq 7, 3) := by decide +kernel
theorem d_R_setMark_34 : decode b_R_setMark 34 = .ok (.iconst 1, 1) := by decide +kernel
theorem d_R_setMark_35 : decode b_R_setMark 35 = .ok (.goto 4, 3) := by decide +kernel
theorem d_R_setMark_38 : decode b_R_setMark 38 = .ok (.iconst (-1), 1) := by decide +kernel
theorem d_R_setMark_39 : decode b_R_setMark 39 = .ok (.iadd, 1) := by decide +kernel
theorem d_R_setMark_40 : decode b_R_setMark 40 = .ok (.putfield 29, 3) := by decide +kernel
theorem d_R_setMark_43 : decode b_R_setMark 43 = .ok (.return_, 1) := by decide +kernel
theorem d_A_fill_0 : decode b_A_fill 0 = .ok (.aload_n 0, 1) := by decide +kernel
theorem d_A_fill_1 : decode b_A_fill 1 = .ok (.arraylength, 1) := by decide +kernel
theorem d_A_fill_2 : decode b_A_fill 2 = .ok (.iload_n 1, 1) := by decide +kernel
theorem d_A_fill_3 : decode b_A_fill 3 = .ok (.iload_n 2, 1) := by decide +kernel
theorem d_A_fill_4 : decode b_A_fill 4 = .ok (.invokestatic 13, 3) := by decide +kernel
theorem d_A_fill_7 : decode b_A_fill 7 = .ok (.iload_n 1, 1) := by decide +kernel
theorem d_A_fill_8 : decode b_A_fill 8 = .ok (.istore 4, 2) := by decide +kernel
theorem d_A_fill_10 : decode b_A_fill 10 = .ok (.iload 4, 2) := by decide +kernel
theorem d_A_fill_12 : decode b_A_fill 12 = .ok (.iload_n 2, 1) := by decide +kernel
theorem d_A_fill_13 : decode b_A_fill 13 = .ok (.if_icmp .ge 14, 3) := by decide +kernel
theorem d_A_fill_16 : decode b_A_fill 16 = .ok (.aload_n 0, 1) := by decide +kernel
theorem d_A_fill_17 : decode b_A_fill 17 = .ok (.iload 4, 2) := by decide +kernel
theorem d_A_fill_19 : decode b_A_fill 19 = .ok (.iload_n 3, 1) := by decide +kernel
theorem d_A_fill_20 : decode b_A_fill 20 = .ok (.bastore, 1) := by decide +kernel
theorem d_A_fill_21 : decode b_A_fill 21 = .ok (.iinc 4 1, 3) := by decide +kernel
theorem d_A_fill_24 : decode b_A_fill 24 = .ok (.goto (-14), 3) := by decide +kernel
theorem d_A_fill_27 : decode b_A_fill 27 = .ok (.return_, 1) := by decide +kernel
theorem d_A_rangeCheck_0 : decode b_A_rangeCheck 0 = .ok (.iload_n 1, 1) := by decide +kernel
theorem d_A_rangeCheck_1 : decode b_A_rangeCheck 1 = .ok (.iload_n 2, 1) := by decide +kernel
theorem d_A_rangeCheck_2 : decode b_A_rangeCheck 2 = .ok (.if_icmp .le 44, 3) := by decide +kernel
theorem d_A_rangeCheck_46 : decode b_A_rangeCheck 46 = .ok (.iload_n 1, 1) := by decide +kernel
theorem d_A_rangeCheck_47 : decode b_A_rangeCheck 47 = .ok (.ifCond .ge 12, 3) := by decide +kernel
theorem d_A_rangeCheck_59 : decode b_A_rangeCheck 59 = .ok (.iload_n 2, 1) := by decide +kernel
theorem d_A_rangeCheck_60 : decode b_A_rangeCheck 60 = .ok (.iload_n 0, 1) := by decide +kernel
theorem d_A_rangeCheck_61 : decode b_A_rangeCheck 61 = .ok (.if_icmp .le 12, 3) := by decide +kernel
theorem d_A_rangeCheck_73 : decode b_A_rangeCheck 73 = .ok (.return_, 1) := by decide +kernel
