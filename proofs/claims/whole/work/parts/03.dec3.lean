theorem dX8_add_55 : decode cX8_add 55 = .ok (.ireturn, 1) := by decide +kernel
theorem dX8_add_56 : decode cX8_add 56 = .ok (.aload_n 0, 1) := by decide +kernel
theorem dX8_add_57 : decode cX8_add 57 = .ok (.getfield 7, 3) := by decide +kernel
theorem dX8_add_60 : decode cX8_add 60 = .ok (.iconst 3, 1) := by decide +kernel
theorem dX8_add_61 : decode cX8_add 61 = .ok (.iaload, 1) := by decide +kernel
theorem dX8_add_62 : decode cX8_add 62 = .ok (.bipush 8, 2) := by decide +kernel
theorem dX8_add_64 : decode cX8_add 64 = .ok (.if_icmp .ne 6, 3) := by decide +kernel
theorem dX8_add_67 : decode cX8_add 67 = .ok (.bipush (-3), 2) := by decide +kernel
theorem dX8_add_69 : decode cX8_add 69 = .ok (.ireturn, 1) := by decide +kernel
theorem dX8_add_70 : decode cX8_add 70 = .ok (.sipush 1761, 3) := by decide +kernel
theorem dX8_add_73 : decode cX8_add 73 = .ok (.iconst 4, 1) := by decide +kernel
theorem dX8_add_74 : decode cX8_add 74 = .ok (.aload_n 0, 1) := by decide +kernel
theorem dX8_add_75 : decode cX8_add 75 = .ok (.getfield 7, 3) := by decide +kernel
theorem dX8_add_78 : decode cX8_add 78 = .ok (.iconst 3, 1) := by decide +kernel
theorem dX8_add_79 : decode cX8_add 79 = .ok (.iaload, 1) := by decide +kernel
theorem dX8_add_80 : decode cX8_add 80 = .ok (.imul, 1) := by decide +kernel
theorem dX8_add_81 : decode cX8_add 81 = .ok (.iadd, 1) := by decide +kernel
theorem dX8_add_82 : decode cX8_add 82 = .ok (.istore 5, 2) := by decide +kernel
theorem dX8_add_84 : decode cX8_add 84 = .ok (.aload_n 0, 1) := by decide +kernel
theorem dX8_add_85 : decode cX8_add 85 = .ok (.getfield 7, 3) := by decide +kernel
theorem dX8_add_88 : decode cX8_add 88 = .ok (.iload 5, 2) := by decide +kernel
theorem dX8_add_90 : decode cX8_add 90 = .ok (.iload_n 1, 1) := by decide +kernel
theorem dX8_add_91 : decode cX8_add 91 = .ok (.iastore, 1) := by decide +kernel
theorem dX8_add_92 : decode cX8_add 92 = .ok (.aload_n 0, 1) := by decide +kernel
theorem dX8_add_93 : decode cX8_add 93 = .ok (.getfield 7, 3) := by decide +kernel
theorem dX8_add_96 : decode cX8_add 96 = .ok (.iload 5, 2) := by decide +kernel
theorem dX8_add_98 : decode cX8_add 98 = .ok (.iconst 1, 1) := by decide +kernel
theorem dX8_add_99 : decode cX8_add 99 = .ok (.iadd, 1) := by decide +kernel
theorem dX8_add_100 : decode cX8_add 100 = .ok (.iload_n 2, 1) := by decide +kernel
theorem dX8_add_101 : decode cX8_add 101 = .ok (.iastore, 1) := by decide +kernel
theorem dX8_add_102 : decode cX8_add 102 = .ok (.aload_n 0, 1) := by decide +kernel
theorem dX8_add_103 : decode cX8_add 103 = .ok (.getfield 7, 3) := by decide +kernel
theorem dX8_add_106 : decode cX8_add 106 = .ok (.iload 5, 2) := by decide +kernel
theorem dX8_add_108 : decode cX8_add 108 = .ok (.iconst 2, 1) := by decide +kernel
theorem dX8_add_109 : decode cX8_add 109 = .ok (.iadd, 1) := by decide +kernel
theorem dX8_add_110 : decode cX8_add 110 = .ok (.iload_n 3, 1) := by decide +kernel
theorem dX8_add_111 : decode cX8_add 111 = .ok (.iastore, 1) := by decide +kernel
theorem dX8_add_112 : decode cX8_add 112 = .ok (.aload_n 0, 1) := by decide +kernel
theorem dX8_add_113 : decode cX8_add 113 = .ok (.getfield 7, 3) := by decide +kernel
theorem dX8_add_116 : decode cX8_add 116 = .ok (.iload 5, 2) := by decide +kernel
theorem dX8_add_118 : decode cX8_add 118 = .ok (.iconst 3, 1) := by decide +kernel
theorem dX8_add_119 : decode cX8_add 119 = .ok (.iadd, 1) := by decide +kernel
theorem dX8_add_120 : decode cX8_add 120 = .ok (.iload 4, 2) := by decide +kernel
theorem dX8_add_122 : decode cX8_add 122 = .ok (.iastore, 1) := by decide +kernel
theorem dX8_add_123 : decode cX8_add 123 = .ok (.aload_n 0, 1) := by decide +kernel
theorem dX8_add_124 : decode cX8_add 124 = .ok (.getfield 7, 3) := by decide +kernel
theorem dX8_add_127 : decode cX8_add 127 = .ok (.iconst 3, 1) := by decide +kernel
theorem dX8_add_128 : decode cX8_add 128 = .ok (.dup2, 1) := by decide +kernel
theorem dX8_add_129 : decode cX8_add 129 = .ok (.iaload, 1) := by decide +kernel
theorem dX8_add_130 : decode cX8_add 130 = .ok (.iconst 1, 1) := by decide +kernel
theorem dX8_add_131 : decode cX8_add 131 = .ok (.iadd, 1) := by decide +kernel
theorem dX8_add_132 : decode cX8_add 132 = .ok (.iastore, 1) := by decide +kernel
theorem dX8_add_133 : decode cX8_add 133 = .ok (.aload_n 0, 1) := by decide +kernel
theorem dX8_add_134 : decode cX8_add 134 = .ok (.getfield 7, 3) := by decide +kernel
theorem dX8_add_137 : decode cX8_add 137 = .ok (.iconst 3, 1) := by decide +kernel
theorem dX8_add_138 : decode cX8_add 138 = .ok (.iaload, 1) := by decide +kernel
theorem dX8_add_139 : decode cX8_add 139 = .ok (.ireturn, 1) := by decide +kernel
theorem dX8_type_0 : decode cX8_type 0 = .ok (.aload_n 0, 1) := by decide +kernel
theorem dX8_type_1 : decode cX8_type 1 = .ok (.iconst 0, 1) := by decide +kernel
theorem dX8_type_2 : decode cX8_type 2 = .ok (.putfield 48, 3) := by decide +kernel
theorem dX8_type_5 : decode cX8_type 5 = .ok (.iload_n 1, 1) := by decide +kernel
theorem dX8_type_6 : decode cX8_type 6 = .ok (.i2l, 1) := by decide +kernel
theorem dX8_type_7 : decode cX8_type 7 = .ok (.ldc2_w 97, 3) := by decide +kernel
theorem dX8_type_10 : decode cX8_type 10 = .ok (.ldc2_w 99, 3) := by decide +kernel
theorem dX8_type_13 : decode cX8_type 13 = .ok (.invokestatic 51, 3) := by decide +kernel
theorem dX8_type_16 : decode cX8_type 16 = .ok (.ifCond .ne 5, 3) := by decide +kernel
theorem dX8_type_19 : decode cX8_type 19 = .ok (.iconst (-1), 1) := by decide +kernel
theorem dX8_type_20 : decode cX8_type 20 = .ok (.ireturn, 1) := by decide +kernel
theorem dX8_type_21 : decode cX8_type 21 = .ok (.aload_n 0, 1) := by decide +kernel
theorem dX8_type_22 : decode cX8_type 22 = .ok (.getfield 101, 3) := by decide +kernel
theorem dX8_type_25 : decode cX8_type 25 = .ok (.sipush 160, 3) := by decide +kernel
theorem dX8_type_28 : decode cX8_type 28 = .ok (.if_icmp .ne 6, 3) := by decide +kernel
theorem dX8_type_31 : decode cX8_type 31 = .ok (.bipush (-3), 2) := by decide +kernel
theorem dX8_type_33 : decode cX8_type 33 = .ok (.ireturn, 1) := by decide +kernel
theorem dX8_type_34 : decode cX8_type 34 = .ok (.aload_n 0, 1) := by decide +kernel
theorem dX8_type_35 : decode cX8_type 35 = .ok (.getfield 22, 3) := by decide +kernel
theorem dX8_type_38 : decode cX8_type 38 = .ok (.aload_n 0, 1) := by decide +kernel
theorem dX8_type_39 : decode cX8_type 39 = .ok (.getfield 101, 3) := by decide +kernel
theorem dX8_type_42 : decode cX8_type 42 = .ok (.iload_n 1, 1) := by decide +kernel
theorem dX8_type_43 : decode cX8_type 43 = .ok (.iastore, 1) := by decide +kernel
theorem dX8_type_44 : decode cX8_type 44 = .ok (.aload_n 0, 1) := by decide +kernel
theorem dX8_type_45 : decode cX8_type 45 = .ok (.dup, 1) := by decide +kernel
theorem dX8_type_46 : decode cX8_type 46 = .ok (.getfield 101, 3) := by decide +kernel
theorem dX8_type_49 : decode cX8_type 49 = .ok (.iconst 1, 1) := by decide +kernel
theorem dX8_type_50 : decode cX8_type 50 = .ok (.iadd, 1) := by decide +kernel
theorem dX8_type_51 : decode cX8_type 51 = .ok (.putfield 101, 3) := by decide +kernel
theorem dX8_type_54 : decode cX8_type 54 = .ok (.aload_n 0, 1) := by decide +kernel
theorem dX8_type_55 : decode cX8_type 55 = .ok (.getfield 101, 3) := by decide +kernel
theorem dX8_type_58 : decode cX8_type 58 = .ok (.ireturn, 1) := by decide +kernel
theorem dX8_letter_0 : decode cX8_letter 0 = .ok (.aload_n 0, 1) := by decide +kernel
theorem dX8_letter_1 : decode cX8_letter 1 = .ok (.getfield 104, 3) := by decide +kernel
theorem dX8_letter_4 : decode cX8_letter 4 = .ok (.aload_n 0, 1) := by decide +kernel
theorem dX8_letter_5 : decode cX8_letter 5 = .ok (.getfield 101, 3) := by decide +kernel
theorem dX8_letter_8 : decode cX8_letter 8 = .ok (.if_icmp .ge 30, 3) := by decide +kernel
theorem dX8_letter_11 : decode cX8_letter 11 = .ok (.aload_n 0, 1) := by decide +kernel
theorem dX8_letter_12 : decode cX8_letter 12 = .ok (.getfield 22, 3) := by decide +kernel
theorem dX8_letter_15 : decode cX8_letter 15 = .ok (.aload_n 0, 1) := by decide +kernel
theorem dX8_letter_16 : decode cX8_letter 16 = .ok (.getfield 104, 3) := by decide +kernel
theorem dX8_letter_19 : decode cX8_letter 19 = .ok (.iaload, 1) := by decide +kernel
theorem dX8_letter_20 : decode cX8_letter 20 = .ok (.bipush 32, 2) := by decide +kernel
theorem dX8_letter_22 : decode cX8_letter 22 = .ok (.if_icmp .ne 16, 3) := by decide +kernel
theorem dX8_letter_25 : decode cX8_letter 25 = .ok (.aload_n 0, 1) := by decide +kernel
theorem dX8_letter_26 : decode cX8_letter 26 = .ok (.dup, 1) := by decide +kernel
theorem dX8_letter_27 : decode cX8_letter 27 = .ok (.getfield 104, 3) := by decide +kernel
theorem dX8_letter_30 : decode cX8_letter 30 = .ok (.iconst 1, 1) := by decide +kernel
theorem dX8_letter_31 : decode cX8_letter 31 = .ok (.iadd, 1) := by decide +kernel
theorem dX8_letter_32 : decode cX8_letter 32 = .ok (.putfield 104, 3) := by decide +kernel
theorem dX8_letter_35 : decode cX8_letter 35 = .ok (.goto (-35), 3) := by decide +kernel
theorem dX8_letter_38 : decode cX8_letter 38 = .ok (.aload_n 0, 1) := by decide +kernel
theorem dX8_letter_39 : decode cX8_letter 39 = .ok (.aload_n 0, 1) := by decide +kernel
theorem dX8_letter_40 : decode cX8_letter 40 = .ok (.getfield 104, 3) := by decide +kernel
theorem dX8_letter_43 : decode cX8_letter 43 = .ok (.putfield 107, 3) := by decide +kernel
theorem dX8_letter_46 : decode cX8_letter 46 = .ok (.aload_n 0, 1) := by decide +kernel
theorem dX8_letter_47 : decode cX8_letter 47 = .ok (.getfield 104, 3) := by decide +kernel
theorem dX8_letter_50 : decode cX8_letter 50 = .ok (.aload_n 0, 1) := by decide +kernel
theorem dX8_letter_51 : decode cX8_letter 51 = .ok (.getfield 101, 3) := by decide +kernel
theorem dX8_letter_54 : decode cX8_letter 54 = .ok (.if_icmp .ge 15, 3) := by decide +kernel
theorem dX8_letter_57 : decode cX8_letter 57 = .ok (.aload_n 0, 1) := by decide +kernel
theorem dX8_letter_58 : decode cX8_letter 58 = .ok (.getfield 22, 3) := by decide +kernel
theorem dX8_letter_61 : decode cX8_letter 61 = .ok (.aload_n 0, 1) := by decide +kernel
theorem dX8_letter_62 : decode cX8_letter 62 = .ok (.getfield 104, 3) := by decide +kernel
theorem dX8_letter_65 : decode cX8_letter 65 = .ok (.iaload, 1) := by decide +kernel
theorem dX8_letter_66 : decode cX8_letter 66 = .ok (.goto 4, 3) := by decide +kernel
theorem dX8_letter_69 : decode cX8_letter 69 = .ok (.iconst (-1), 1) := by decide +kernel
theorem dX8_letter_70 : decode cX8_letter 70 = .ok (.ireturn, 1) := by decide +kernel
theorem dX8_takes_0 : decode cX8_takes 0 = .ok (.aload_n 0, 1) := by decide +kernel
theorem dX8_takes_1 : decode cX8_takes 1 = .ok (.invokevirtual 110, 3) := by decide +kernel
theorem dX8_takes_4 : decode cX8_takes 4 = .ok (.istore 4, 2) := by decide +kernel
theorem dX8_takes_6 : decode cX8_takes 6 = .ok (.iload 4, 2) := by decide +kernel
theorem dX8_takes_8 : decode cX8_takes 8 = .ok (.ifCond .ge 7, 3) := by decide +kernel
theorem dX8_takes_11 : decode cX8_takes 11 = .ok (.iconst (-1), 1) := by decide +kernel
theorem dX8_takes_12 : decode cX8_takes 12 = .ok (.goto 34, 3) := by decide +kernel
theorem dX8_takes_15 : decode cX8_takes 15 = .ok (.iload 4, 2) := by decide +kernel
theorem dX8_takes_17 : decode cX8_takes 17 = .ok (.iload_n 1, 1) := by decide +kernel
theorem dX8_takes_18 : decode cX8_takes 18 = .ok (.if_icmp .ne 7, 3) := by decide +kernel
theorem dX8_takes_21 : decode cX8_takes 21 = .ok (.iconst 0, 1) := by decide +kernel
theorem dX8_takes_22 : decode cX8_takes 22 = .ok (.goto 24, 3) := by decide +kernel
theorem dX8_takes_25 : decode cX8_takes 25 = .ok (.iload 4, 2) := by decide +kernel
theorem dX8_takes_27 : decode cX8_takes 27 = .ok (.iload_n 2, 1) := by decide +kernel
theorem dX8_takes_28 : decode cX8_takes 28 = .ok (.if_icmp .ne 7, 3) := by decide +kernel
theorem dX8_takes_31 : decode cX8_takes 31 = .ok (.iconst 1, 1) := by decide +kernel
theorem dX8_takes_32 : decode cX8_takes 32 = .ok (.goto 14, 3) := by decide +kernel
theorem dX8_takes_35 : decode cX8_takes 35 = .ok (.iload 4, 2) := by decide +kernel
theorem dX8_takes_37 : decode cX8_takes 37 = .ok (.iload_n 3, 1) := by decide +kernel
theorem dX8_takes_38 : decode cX8_takes 38 = .ok (.if_icmp .ne 7, 3) := by decide +kernel
theorem dX8_takes_41 : decode cX8_takes 41 = .ok (.iconst 2, 1) := by decide +kernel
theorem dX8_takes_42 : decode cX8_takes 42 = .ok (.goto 4, 3) := by decide +kernel
theorem dX8_takes_45 : decode cX8_takes 45 = .ok (.iconst (-1), 1) := by decide +kernel
theorem dX8_takes_46 : decode cX8_takes 46 = .ok (.istore 5, 2) := by decide +kernel
theorem dX8_takes_48 : decode cX8_takes 48 = .ok (.aload_n 0, 1) := by decide +kernel
theorem dX8_takes_49 : decode cX8_takes 49 = .ok (.iload 5, 2) := by decide +kernel
theorem dX8_takes_51 : decode cX8_takes 51 = .ok (.invokevirtual 114, 3) := by decide +kernel
theorem dX8_takes_54 : decode cX8_takes 54 = .ok (.ireturn, 1) := by decide +kernel
theorem dX8_passes_0 : decode cX8_passes 0 = .ok (.aload_n 0, 1) := by decide +kernel
theorem dX8_passes_1 : decode cX8_passes 1 = .ok (.getfield 118, 3) := by decide +kernel
theorem dX8_passes_4 : decode cX8_passes 4 = .ok (.ifCond .lt 5, 3) := by decide +kernel
theorem dX8_passes_7 : decode cX8_passes 7 = .ok (.iconst 0, 1) := by decide +kernel
theorem dX8_passes_8 : decode cX8_passes 8 = .ok (.ireturn, 1) := by decide +kernel
theorem dX8_passes_9 : decode cX8_passes 9 = .ok (.iload_n 1, 1) := by decide +kernel
theorem dX8_passes_10 : decode cX8_passes 10 = .ok (.ifCond .ge 13, 3) := by decide +kernel
theorem dX8_passes_13 : decode cX8_passes 13 = .ok (.aload_n 0, 1) := by decide +kernel
theorem dX8_passes_14 : decode cX8_passes 14 = .ok (.aload_n 0, 1) := by decide +kernel
theorem dX8_passes_15 : decode cX8_passes 15 = .ok (.getfield 107, 3) := by decide +kernel
theorem dX8_passes_18 : decode cX8_passes 18 = .ok (.putfield 118, 3) := by decide +kernel
theorem dX8_passes_21 : decode cX8_passes 21 = .ok (.iconst 0, 1) := by decide +kernel
theorem dX8_passes_22 : decode cX8_passes 22 = .ok (.ireturn, 1) := by decide +kernel
theorem dX8_passes_23 : decode cX8_passes 23 = .ok (.aload_n 0, 1) := by decide +kernel
theorem dX8_passes_24 : decode cX8_passes 24 = .ok (.dup, 1) := by decide +kernel
theorem dX8_passes_25 : decode cX8_passes 25 = .ok (.getfield 104, 3) := by decide +kernel
theorem dX8_passes_28 : decode cX8_passes 28 = .ok (.iconst 1, 1) := by decide +kernel
theorem dX8_passes_29 : decode cX8_passes 29 = .ok (.iadd, 1) := by decide +kernel
theorem dX8_passes_30 : decode cX8_passes 30 = .ok (.putfield 104, 3) := by decide +kernel
theorem dX8_passes_33 : decode cX8_passes 33 = .ok (.iload_n 1, 1) := by decide +kernel
theorem dX8_passes_34 : decode cX8_passes 34 = .ok (.ireturn, 1) := by decide +kernel
theorem dX8_readsRule_0 : decode cX8_readsRule 0 = .ok (.iconst 4, 1) := by decide +kernel
theorem dX8_readsRule_1 : decode cX8_readsRule 1 = .ok (.aload_n 0, 1) := by decide +kernel
theorem dX8_readsRule_2 : decode cX8_readsRule 2 = .ok (.getfield 121, 3) := by decide +kernel
theorem dX8_readsRule_5 : decode cX8_readsRule 5 = .ok (.imul, 1) := by decide +kernel
theorem dX8_readsRule_6 : decode cX8_readsRule 6 = .ok (.istore_n 1, 1) := by decide +kernel
theorem dX8_readsRule_7 : decode cX8_readsRule 7 = .ok (.aload_n 0, 1) := by decide +kernel
theorem dX8_readsRule_8 : decode cX8_readsRule 8 = .ok (.getfield 25, 3) := by decide +kernel
theorem dX8_readsRule_11 : decode cX8_readsRule 11 = .ok (.iload_n 1, 1) := by decide +kernel
theorem dX8_readsRule_12 : decode cX8_readsRule 12 = .ok (.aload_n 0, 1) := by decide +kernel
theorem dX8_readsRule_13 : decode cX8_readsRule 13 = .ok (.bipush 114, 2) := by decide +kernel
theorem dX8_readsRule_15 : decode cX8_readsRule 15 = .ok (.bipush 103, 2) := by decide +kernel
theorem dX8_readsRule_17 : decode cX8_readsRule 17 = .ok (.bipush 97, 2) := by decide +kernel
theorem dX8_readsRule_19 : decode cX8_readsRule 19 = .ok (.invokevirtual 124, 3) := by decide +kernel
theorem dX8_readsRule_22 : decode cX8_readsRule 22 = .ok (.iastore, 1) := by decide +kernel
theorem dX8_readsRule_23 : decode cX8_readsRule 23 = .ok (.aload_n 0, 1) := by decide +kernel
theorem dX8_readsRule_24 : decode cX8_readsRule 24 = .ok (.invokevirtual 110, 3) := by decide +kernel
theorem dX8_readsRule_27 : decode cX8_readsRule 27 = .ok (.istore_n 2, 1) := by decide +kernel
theorem dX8_readsRule_28 : decode cX8_readsRule 28 = .ok (.aload_n 0, 1) := by decide +kernel
theorem dX8_readsRule_29 : decode cX8_readsRule 29 = .ok (.getfield 25, 3) := by decide +kernel
theorem dX8_readsRule_32 : decode cX8_readsRule 32 = .ok (.iload_n 1, 1) := by decide +kernel
theorem dX8_readsRule_33 : decode cX8_readsRule 33 = .ok (.iconst 1, 1) := by decide +kernel
theorem dX8_readsRule_34 : decode cX8_readsRule 34 = .ok (.iadd, 1) := by decide +kernel
theorem dX8_readsRule_35 : decode cX8_readsRule 35 = .ok (.aload_n 0, 1) := by decide +kernel
theorem dX8_readsRule_36 : decode cX8_readsRule 36 = .ok (.iload_n 2, 1) := by decide +kernel
theorem dX8_readsRule_37 : decode cX8_readsRule 37 = .ok (.i2l, 1) := by decide +kernel
theorem dX8_readsRule_38 : decode cX8_readsRule 38 = .ok (.ldc2_w 128, 3) := by decide +kernel
theorem dX8_readsRule_41 : decode cX8_readsRule 41 = .ok (.ldc2_w 130, 3) := by decide +kernel
theorem dX8_readsRule_44 : decode cX8_readsRule 44 = .ok (.invokestatic 51, 3) := by decide +kernel
theorem dX8_readsRule_47 : decode cX8_readsRule 47 = .ok (.ifCond .eq 10, 3) := by decide +kernel
theorem dX8_readsRule_50 : decode cX8_readsRule 50 = .ok (.iload_n 2, 1) := by decide +kernel
theorem dX8_readsRule_51 : decode cX8_readsRule 51 = .ok (.bipush 48, 2) := by decide +kernel
theorem dX8_readsRule_53 : decode cX8_readsRule 53 = .ok (.isub, 1) := by decide +kernel
theorem dX8_readsRule_54 : decode cX8_readsRule 54 = .ok (.goto 4, 3) := by decide +kernel
theorem dX8_readsRule_57 : decode cX8_readsRule 57 = .ok (.iconst (-1), 1) := by decide +kernel
theorem dX8_readsRule_58 : decode cX8_readsRule 58 = .ok (.invokevirtual 114, 3) := by decide +kernel
theorem dX8_readsRule_61 : decode cX8_readsRule 61 = .ok (.iastore, 1) := by decide +kernel
theorem dX8_readsRule_62 : decode cX8_readsRule 62 = .ok (.aload_n 0, 1) := by decide +kernel
theorem dX8_readsRule_63 : decode cX8_readsRule 63 = .ok (.getfield 25, 3) := by decide +kernel
theorem dX8_readsRule_66 : decode cX8_readsRule 66 = .ok (.iload_n 1, 1) := by decide +kernel
theorem dX8_readsRule_67 : decode cX8_readsRule 67 = .ok (.iconst 2, 1) := by decide +kernel
theorem dX8_readsRule_68 : decode cX8_readsRule 68 = .ok (.iadd, 1) := by decide +kernel
theorem dX8_readsRule_69 : decode cX8_readsRule 69 = .ok (.aload_n 0, 1) := by decide +kernel
theorem dX8_readsRule_70 : decode cX8_readsRule 70 = .ok (.bipush 115, 2) := by decide +kernel
theorem dX8_readsRule_72 : decode cX8_readsRule 72 = .ok (.bipush 98, 2) := by decide +kernel
theorem dX8_readsRule_74 : decode cX8_readsRule 74 = .ok (.bipush 108, 2) := by decide +kernel
theorem dX8_readsRule_76 : decode cX8_readsRule 76 = .ok (.invokevirtual 124, 3) := by decide +kernel
theorem dX8_readsRule_79 : decode cX8_readsRule 79 = .ok (.iastore, 1) := by decide +kernel
theorem dX8_readsRule_80 : decode cX8_readsRule 80 = .ok (.aload_n 0, 1) := by decide +kernel
theorem dX8_readsRule_81 : decode cX8_readsRule 81 = .ok (.getfield 25, 3) := by decide +kernel
theorem dX8_readsRule_84 : decode cX8_readsRule 84 = .ok (.iload_n 1, 1) := by decide +kernel
theorem dX8_readsRule_85 : decode cX8_readsRule 85 = .ok (.iconst 3, 1) := by decide +kernel
theorem dX8_readsRule_86 : decode cX8_readsRule 86 = .ok (.iadd, 1) := by decide +kernel
theorem dX8_readsRule_87 : decode cX8_readsRule 87 = .ok (.aload_n 0, 1) := by decide +kernel
theorem dX8_readsRule_88 : decode cX8_readsRule 88 = .ok (.bipush 114, 2) := by decide +kernel
theorem dX8_readsRule_90 : decode cX8_readsRule 90 = .ok (.bipush 103, 2) := by decide +kernel
theorem dX8_readsRule_92 : decode cX8_readsRule 92 = .ok (.bipush 111, 2) := by decide +kernel
theorem dX8_readsRule_94 : decode cX8_readsRule 94 = .ok (.invokevirtual 124, 3) := by decide +kernel
theorem dX8_readsRule_97 : decode cX8_readsRule 97 = .ok (.iastore, 1) := by decide +kernel
theorem dX8_readsRule_98 : decode cX8_readsRule 98 = .ok (.return_, 1) := by decide +kernel
theorem dX8_reads_0 : decode cX8_reads 0 = .ok (.aload_n 0, 1) := by decide +kernel
theorem dX8_reads_1 : decode cX8_reads 1 = .ok (.iconst (-1), 1) := by decide +kernel
theorem dX8_reads_2 : decode cX8_reads 2 = .ok (.putfield 118, 3) := by decide +kernel
theorem dX8_reads_5 : decode cX8_reads 5 = .ok (.aload_n 0, 1) := by decide +kernel
theorem dX8_reads_6 : decode cX8_reads 6 = .ok (.iconst 0, 1) := by decide +kernel
theorem dX8_reads_7 : decode cX8_reads 7 = .ok (.putfield 104, 3) := by decide +kernel
theorem dX8_reads_10 : decode cX8_reads 10 = .ok (.aload_n 0, 1) := by decide +kernel
theorem dX8_reads_11 : decode cX8_reads 11 = .ok (.iconst 0, 1) := by decide +kernel
theorem dX8_reads_12 : decode cX8_reads 12 = .ok (.putfield 121, 3) := by decide +kernel
theorem dX8_reads_15 : decode cX8_reads 15 = .ok (.iload_n 1, 1) := by decide +kernel
theorem dX8_reads_16 : decode cX8_reads 16 = .ok (.ifCond .eq 10, 3) := by decide +kernel
theorem dX8_reads_19 : decode cX8_reads 19 = .ok (.aload_n 0, 1) := by decide +kernel
theorem dX8_reads_20 : decode cX8_reads 20 = .ok (.invokevirtual 110, 3) := by decide +kernel
theorem dX8_reads_23 : decode cX8_reads 23 = .ok (.ifCond .lt 7, 3) := by decide +kernel
theorem dX8_reads_26 : decode cX8_reads 26 = .ok (.iconst 1, 1) := by decide +kernel
theorem dX8_reads_27 : decode cX8_reads 27 = .ok (.goto 4, 3) := by decide +kernel
theorem dX8_reads_30 : decode cX8_reads 30 = .ok (.iconst 0, 1) := by decide +kernel
theorem dX8_reads_31 : decode cX8_reads 31 = .ok (.istore_n 2, 1) := by decide +kernel
theorem dX8_reads_32 : decode cX8_reads 32 = .ok (.iload_n 2, 1) := by decide +kernel
theorem dX8_reads_33 : decode cX8_reads 33 = .ok (.ifCond .eq 119, 3) := by decide +kernel
theorem dX8_reads_36 : decode cX8_reads 36 = .ok (.iload_n 1, 1) := by decide +kernel
theorem dX8_reads_37 : decode cX8_reads 37 = .ok (.ifCond .eq 10, 3) := by decide +kernel
theorem dX8_reads_40 : decode cX8_reads 40 = .ok (.aload_n 0, 1) := by decide +kernel
theorem dX8_reads_41 : decode cX8_reads 41 = .ok (.invokevirtual 132, 3) := by decide +kernel
theorem dX8_reads_44 : decode cX8_reads 44 = .ok (.goto 7, 3) := by decide +kernel
theorem dX8_reads_47 : decode cX8_reads 47 = .ok (.aload_n 0, 1) := by decide +kernel
theorem dX8_reads_48 : decode cX8_reads 48 = .ok (.invokevirtual 135, 3) := by decide +kernel
theorem dX8_reads_51 : decode cX8_reads 51 = .ok (.aload_n 0, 1) := by decide +kernel
theorem dX8_reads_52 : decode cX8_reads 52 = .ok (.dup, 1) := by decide +kernel
theorem dX8_reads_53 : decode cX8_reads 53 = .ok (.getfield 121, 3) := by decide +kernel
theorem dX8_reads_56 : decode cX8_reads 56 = .ok (.iconst 1, 1) := by decide +kernel
theorem dX8_reads_57 : decode cX8_reads 57 = .ok (.iadd, 1) := by decide +kernel
theorem dX8_reads_58 : decode cX8_reads 58 = .ok (.putfield 121, 3) := by decide +kernel
theorem dX8_reads_61 : decode cX8_reads 61 = .ok (.aload_n 0, 1) := by decide +kernel
theorem dX8_reads_62 : decode cX8_reads 62 = .ok (.getfield 118, 3) := by decide +kernel
theorem dX8_reads_65 : decode cX8_reads 65 = .ok (.ifCond .ge 14, 3) := by decide +kernel
theorem dX8_reads_68 : decode cX8_reads 68 = .ok (.aload_n 0, 1) := by decide +kernel
theorem dX8_reads_69 : decode cX8_reads 69 = .ok (.invokevirtual 110, 3) := by decide +kernel
theorem dX8_reads_72 : decode cX8_reads 72 = .ok (.ifCond .lt 7, 3) := by decide +kernel
theorem dX8_reads_75 : decode cX8_reads 75 = .ok (.iconst 1, 1) := by decide +kernel
theorem dX8_reads_76 : decode cX8_reads 76 = .ok (.goto 4, 3) := by decide +kernel
theorem dX8_reads_79 : decode cX8_reads 79 = .ok (.iconst 0, 1) := by decide +kernel
theorem dX8_reads_80 : decode cX8_reads 80 = .ok (.istore_n 2, 1) := by decide +kernel
theorem dX8_reads_81 : decode cX8_reads 81 = .ok (.iload_n 2, 1) := by decide +kernel
theorem dX8_reads_82 : decode cX8_reads 82 = .ok (.ifCond .eq (-50), 3) := by decide +kernel
theorem dX8_reads_85 : decode cX8_reads 85 = .ok (.aload_n 0, 1) := by decide +kernel
theorem dX8_reads_86 : decode cX8_reads 86 = .ok (.aload_n 0, 1) := by decide +kernel
theorem dX8_reads_87 : decode cX8_reads 87 = .ok (.getfield 22, 3) := by decide +kernel
theorem dX8_reads_90 : decode cX8_reads 90 = .ok (.aload_n 0, 1) := by decide +kernel
theorem dX8_reads_91 : decode cX8_reads 91 = .ok (.getfield 104, 3) := by decide +kernel
theorem dX8_reads_94 : decode cX8_reads 94 = .ok (.iaload, 1) := by decide +kernel
theorem dX8_reads_95 : decode cX8_reads 95 = .ok (.iload_n 1, 1) := by decide +kernel
theorem dX8_reads_96 : decode cX8_reads 96 = .ok (.ifCond .eq 8, 3) := by decide +kernel
theorem dX8_reads_99 : decode cX8_reads 99 = .ok (.bipush 59, 2) := by decide +kernel
theorem dX8_reads_101 : decode cX8_reads 101 = .ok (.goto 5, 3) := by decide +kernel
theorem dX8_reads_104 : decode cX8_reads 104 = .ok (.bipush 44, 2) := by decide +kernel
theorem dX8_reads_106 : decode cX8_reads 106 = .ok (.if_icmp .ne 25, 3) := by decide +kernel
theorem dX8_reads_109 : decode cX8_reads 109 = .ok (.aload_n 0, 1) := by decide +kernel
theorem dX8_reads_110 : decode cX8_reads 110 = .ok (.getfield 121, 3) := by decide +kernel
theorem dX8_reads_113 : decode cX8_reads 113 = .ok (.iload_n 1, 1) := by decide +kernel
theorem dX8_reads_114 : decode cX8_reads 114 = .ok (.ifCond .eq 8, 3) := by decide +kernel
theorem dX8_reads_117 : decode cX8_reads 117 = .ok (.bipush 8, 2) := by decide +kernel
theorem dX8_reads_119 : decode cX8_reads 119 = .ok (.goto 5, 3) := by decide +kernel
theorem dX8_reads_122 : decode cX8_reads 122 = .ok (.bipush 9, 2) := by decide +kernel
theorem dX8_reads_124 : decode cX8_reads 124 = .ok (.if_icmp .ge 7, 3) := by decide +kernel
theorem dX8_reads_127 : decode cX8_reads 127 = .ok (.iconst 0, 1) := by decide +kernel
theorem dX8_reads_128 : decode cX8_reads 128 = .ok (.goto 4, 3) := by decide +kernel
theorem dX8_reads_131 : decode cX8_reads 131 = .ok (.iconst (-1), 1) := by decide +kernel
theorem dX8_reads_132 : decode cX8_reads 132 = .ok (.invokevirtual 114, 3) := by decide +kernel
theorem dX8_reads_135 : decode cX8_reads 135 = .ok (.pop, 1) := by decide +kernel
theorem dX8_reads_136 : decode cX8_reads 136 = .ok (.aload_n 0, 1) := by decide +kernel
theorem dX8_reads_137 : decode cX8_reads 137 = .ok (.getfield 118, 3) := by decide +kernel
theorem dX8_reads_140 : decode cX8_reads 140 = .ok (.ifCond .ge 7, 3) := by decide +kernel
theorem dX8_reads_143 : decode cX8_reads 143 = .ok (.iconst 1, 1) := by decide +kernel
theorem dX8_reads_144 : decode cX8_reads 144 = .ok (.goto 4, 3) := by decide +kernel
theorem dX8_reads_147 : decode cX8_reads 147 = .ok (.iconst 0, 1) := by decide +kernel
theorem dX8_reads_148 : decode cX8_reads 148 = .ok (.istore_n 2, 1) := by decide +kernel
theorem dX8_reads_149 : decode cX8_reads 149 = .ok (.goto (-117), 3) := by decide +kernel
theorem dX8_reads_152 : decode cX8_reads 152 = .ok (.aload_n 0, 1) := by decide +kernel
theorem dX8_reads_153 : decode cX8_reads 153 = .ok (.iconst 0, 1) := by decide +kernel
theorem dX8_reads_154 : decode cX8_reads 154 = .ok (.putfield 101, 3) := by decide +kernel
theorem dX8_reads_157 : decode cX8_reads 157 = .ok (.return_, 1) := by decide +kernel
theorem dX8_laws_0 : decode cX8_laws 0 = .ok (.aload_n 0, 1) := by decide +kernel
theorem dX8_laws_1 : decode cX8_laws 1 = .ok (.iconst 0, 1) := by decide +kernel
theorem dX8_laws_2 : decode cX8_laws 2 = .ok (.putfield 48, 3) := by decide +kernel
theorem dX8_laws_5 : decode cX8_laws 5 = .ok (.aload_n 0, 1) := by decide +kernel
theorem dX8_laws_6 : decode cX8_laws 6 = .ok (.iconst 1, 1) := by decide +kernel
theorem dX8_laws_7 : decode cX8_laws 7 = .ok (.invokevirtual 138, 3) := by decide +kernel
theorem dX8_laws_10 : decode cX8_laws 10 = .ok (.aload_n 0, 1) := by decide +kernel
theorem dX8_laws_11 : decode cX8_laws 11 = .ok (.getfield 118, 3) := by decide +kernel
theorem dX8_laws_14 : decode cX8_laws 14 = .ok (.ifCond .lt 11, 3) := by decide +kernel
theorem dX8_laws_17 : decode cX8_laws 17 = .ok (.bipush (-20), 2) := by decide +kernel
theorem dX8_laws_19 : decode cX8_laws 19 = .ok (.aload_n 0, 1) := by decide +kernel
theorem dX8_laws_20 : decode cX8_laws 20 = .ok (.getfield 118, 3) := by decide +kernel
theorem dX8_laws_23 : decode cX8_laws 23 = .ok (.isub, 1) := by decide +kernel
theorem dX8_laws_24 : decode cX8_laws 24 = .ok (.ireturn, 1) := by decide +kernel
theorem dX8_laws_25 : decode cX8_laws 25 = .ok (.aload_n 0, 1) := by decide +kernel
theorem dX8_laws_26 : decode cX8_laws 26 = .ok (.getfield 7, 3) := by decide +kernel
theorem dX8_laws_29 : decode cX8_laws 29 = .ok (.iconst 3, 1) := by decide +kernel
theorem dX8_laws_30 : decode cX8_laws 30 = .ok (.aload_n 0, 1) := by decide +kernel
theorem dX8_laws_31 : decode cX8_laws 31 = .ok (.getfield 121, 3) := by decide +kernel
theorem dX8_laws_34 : decode cX8_laws 34 = .ok (.iastore, 1) := by decide +kernel
theorem dX8_laws_35 : decode cX8_laws 35 = .ok (.iconst 0, 1) := by decide +kernel
theorem dX8_laws_36 : decode cX8_laws 36 = .ok (.istore_n 1, 1) := by decide +kernel
theorem dX8_laws_37 : decode cX8_laws 37 = .ok (.iload_n 1, 1) := by decide +kernel
theorem dX8_laws_38 : decode cX8_laws 38 = .ok (.iconst 4, 1) := by decide +kernel
theorem dX8_laws_39 : decode cX8_laws 39 = .ok (.aload_n 0, 1) := by decide +kernel
theorem dX8_laws_40 : decode cX8_laws 40 = .ok (.getfield 121, 3) := by decide +kernel
theorem dX8_laws_43 : decode cX8_laws 43 = .ok (.imul, 1) := by decide +kernel
theorem dX8_laws_44 : decode cX8_laws 44 = .ok (.if_icmp .ge 25, 3) := by decide +kernel
theorem dX8_laws_47 : decode cX8_laws 47 = .ok (.aload_n 0, 1) := by decide +kernel
theorem dX8_laws_48 : decode cX8_laws 48 = .ok (.getfield 7, 3) := by decide +kernel
theorem dX8_laws_51 : decode cX8_laws 51 = .ok (.sipush 1761, 3) := by decide +kernel
theorem dX8_laws_54 : decode cX8_laws 54 = .ok (.iload_n 1, 1) := by decide +kernel
theorem dX8_laws_55 : decode cX8_laws 55 = .ok (.iadd, 1) := by decide +kernel
theorem dX8_laws_56 : decode cX8_laws 56 = .ok (.aload_n 0, 1) := by decide +kernel
theorem dX8_laws_57 : decode cX8_laws 57 = .ok (.getfield 25, 3) := by decide +kernel
theorem dX8_laws_60 : decode cX8_laws 60 = .ok (.iload_n 1, 1) := by decide +kernel
theorem dX8_laws_61 : decode cX8_laws 61 = .ok (.iaload, 1) := by decide +kernel
theorem dX8_laws_62 : decode cX8_laws 62 = .ok (.iastore, 1) := by decide +kernel
theorem dX8_laws_63 : decode cX8_laws 63 = .ok (.iinc 1 1, 3) := by decide +kernel
theorem dX8_laws_66 : decode cX8_laws 66 = .ok (.goto (-29), 3) := by decide +kernel
theorem dX8_laws_69 : decode cX8_laws 69 = .ok (.aload_n 0, 1) := by decide +kernel
theorem dX8_laws_70 : decode cX8_laws 70 = .ok (.getfield 121, 3) := by decide +kernel
theorem dX8_laws_73 : decode cX8_laws 73 = .ok (.ireturn, 1) := by decide +kernel
theorem dX8_kindOf_0 : decode cX8_kindOf 0 = .ok (.iload_n 1, 1) := by decide +kernel
theorem dX8_kindOf_1 : decode cX8_kindOf 1 = .ok (.bipush 112, 2) := by decide +kernel
theorem dX8_kindOf_3 : decode cX8_kindOf 3 = .ok (.if_icmp .ne 7, 3) := by decide +kernel
theorem dX8_kindOf_6 : decode cX8_kindOf 6 = .ok (.iconst 0, 1) := by decide +kernel
theorem dX8_kindOf_7 : decode cX8_kindOf 7 = .ok (.goto 54, 3) := by decide +kernel
theorem dX8_kindOf_10 : decode cX8_kindOf 10 = .ok (.iload_n 1, 1) := by decide +kernel
theorem dX8_kindOf_11 : decode cX8_kindOf 11 = .ok (.bipush 108, 2) := by decide +kernel
theorem dX8_kindOf_13 : decode cX8_kindOf 13 = .ok (.if_icmp .ne 7, 3) := by decide +kernel
theorem dX8_kindOf_16 : decode cX8_kindOf 16 = .ok (.iconst 1, 1) := by decide +kernel
theorem dX8_kindOf_17 : decode cX8_kindOf 17 = .ok (.goto 44, 3) := by decide +kernel
theorem dX8_kindOf_20 : decode cX8_kindOf 20 = .ok (.iload_n 1, 1) := by decide +kernel
theorem dX8_kindOf_21 : decode cX8_kindOf 21 = .ok (.bipush 101, 2) := by decide +kernel
theorem dX8_kindOf_23 : decode cX8_kindOf 23 = .ok (.if_icmp .ne 7, 3) := by decide +kernel
theorem dX8_kindOf_26 : decode cX8_kindOf 26 = .ok (.iconst 2, 1) := by decide +kernel
theorem dX8_kindOf_27 : decode cX8_kindOf 27 = .ok (.goto 34, 3) := by decide +kernel
theorem dX8_kindOf_30 : decode cX8_kindOf 30 = .ok (.iload_n 1, 1) := by decide +kernel
theorem dX8_kindOf_31 : decode cX8_kindOf 31 = .ok (.bipush 115, 2) := by decide +kernel
theorem dX8_kindOf_33 : decode cX8_kindOf 33 = .ok (.if_icmp .ne 7, 3) := by decide +kernel
theorem dX8_kindOf_36 : decode cX8_kindOf 36 = .ok (.iconst 3, 1) := by decide +kernel
theorem dX8_kindOf_37 : decode cX8_kindOf 37 = .ok (.goto 24, 3) := by decide +kernel
theorem dX8_kindOf_40 : decode cX8_kindOf 40 = .ok (.iload_n 1, 1) := by decide +kernel
theorem dX8_kindOf_41 : decode cX8_kindOf 41 = .ok (.bipush 116, 2) := by decide +kernel
theorem dX8_kindOf_43 : decode cX8_kindOf 43 = .ok (.if_icmp .ne 7, 3) := by decide +kernel
theorem dX8_kindOf_46 : decode cX8_kindOf 46 = .ok (.iconst 4, 1) := by decide +kernel
theorem dX8_kindOf_47 : decode cX8_kindOf 47 = .ok (.goto 14, 3) := by decide +kernel
theorem dX8_kindOf_50 : decode cX8_kindOf 50 = .ok (.iload_n 1, 1) := by decide +kernel
theorem dX8_kindOf_51 : decode cX8_kindOf 51 = .ok (.bipush 109, 2) := by decide +kernel
theorem dX8_kindOf_53 : decode cX8_kindOf 53 = .ok (.if_icmp .ne 7, 3) := by decide +kernel
theorem dX8_kindOf_56 : decode cX8_kindOf 56 = .ok (.iconst 5, 1) := by decide +kernel
theorem dX8_kindOf_57 : decode cX8_kindOf 57 = .ok (.goto 4, 3) := by decide +kernel
theorem dX8_kindOf_60 : decode cX8_kindOf 60 = .ok (.iconst (-1), 1) := by decide +kernel
theorem dX8_kindOf_61 : decode cX8_kindOf 61 = .ok (.ireturn, 1) := by decide +kernel
theorem dX8_number_0 : decode cX8_number 0 = .ok (.aload_n 0, 1) := by decide +kernel
theorem dX8_number_1 : decode cX8_number 1 = .ok (.invokevirtual 110, 3) := by decide +kernel
theorem dX8_number_4 : decode cX8_number 4 = .ok (.istore_n 2, 1) := by decide +kernel
theorem dX8_number_5 : decode cX8_number 5 = .ok (.aload_n 0, 1) := by decide +kernel
theorem dX8_number_6 : decode cX8_number 6 = .ok (.getfield 107, 3) := by decide +kernel
theorem dX8_number_9 : decode cX8_number 9 = .ok (.istore_n 3, 1) := by decide +kernel
theorem dX8_number_10 : decode cX8_number 10 = .ok (.aload_n 0, 1) := by decide +kernel
theorem dX8_number_11 : decode cX8_number 11 = .ok (.iload_n 2, 1) := by decide +kernel
theorem dX8_number_12 : decode cX8_number 12 = .ok (.i2l, 1) := by decide +kernel
theorem dX8_number_13 : decode cX8_number 13 = .ok (.ldc2_w 128, 3) := by decide +kernel
theorem dX8_number_16 : decode cX8_number 16 = .ok (.ldc2_w 130, 3) := by decide +kernel
theorem dX8_number_19 : decode cX8_number 19 = .ok (.invokestatic 51, 3) := by decide +kernel
theorem dX8_number_22 : decode cX8_number 22 = .ok (.ifCond .eq 7, 3) := by decide +kernel
theorem dX8_number_25 : decode cX8_number 25 = .ok (.iconst 0, 1) := by decide +kernel
theorem dX8_number_26 : decode cX8_number 26 = .ok (.goto 4, 3) := by decide +kernel
theorem dX8_number_29 : decode cX8_number 29 = .ok (.iconst (-1), 1) := by decide +kernel
theorem dX8_number_30 : decode cX8_number 30 = .ok (.invokevirtual 114, 3) := by decide +kernel
theorem dX8_number_33 : decode cX8_number 33 = .ok (.pop, 1) := by decide +kernel
theorem dX8_number_34 : decode cX8_number 34 = .ok (.iload_n 2, 1) := by decide +kernel
theorem dX8_number_35 : decode cX8_number 35 = .ok (.bipush 48, 2) := by decide +kernel
theorem dX8_number_37 : decode cX8_number 37 = .ok (.isub, 1) := by decide +kernel
theorem dX8_number_38 : decode cX8_number 38 = .ok (.istore 4, 2) := by decide +kernel
theorem dX8_number_40 : decode cX8_number 40 = .ok (.aload_n 0, 1) := by decide +kernel
theorem dX8_number_41 : decode cX8_number 41 = .ok (.getfield 118, 3) := by decide +kernel
theorem dX8_number_44 : decode cX8_number 44 = .ok (.ifCond .ge 81, 3) := by decide +kernel
theorem dX8_number_47 : decode cX8_number 47 = .ok (.aload_n 0, 1) := by decide +kernel
theorem dX8_number_48 : decode cX8_number 48 = .ok (.getfield 104, 3) := by decide +kernel
theorem dX8_number_51 : decode cX8_number 51 = .ok (.aload_n 0, 1) := by decide +kernel
theorem dX8_number_52 : decode cX8_number 52 = .ok (.getfield 101, 3) := by decide +kernel
theorem dX8_number_55 : decode cX8_number 55 = .ok (.if_icmp .ge 70, 3) := by decide +kernel
theorem dX8_number_58 : decode cX8_number 58 = .ok (.aload_n 0, 1) := by decide +kernel
theorem dX8_number_59 : decode cX8_number 59 = .ok (.getfield 22, 3) := by decide +kernel
theorem dX8_number_62 : decode cX8_number 62 = .ok (.aload_n 0, 1) := by decide +kernel
theorem dX8_number_63 : decode cX8_number 63 = .ok (.getfield 104, 3) := by decide +kernel
theorem dX8_number_66 : decode cX8_number 66 = .ok (.iaload, 1) := by decide +kernel
theorem dX8_number_67 : decode cX8_number 67 = .ok (.i2l, 1) := by decide +kernel
theorem dX8_number_68 : decode cX8_number 68 = .ok (.ldc2_w 128, 3) := by decide +kernel
theorem dX8_number_71 : decode cX8_number 71 = .ok (.ldc2_w 130, 3) := by decide +kernel
theorem dX8_number_74 : decode cX8_number 74 = .ok (.invokestatic 51, 3) := by decide +kernel
theorem dX8_number_77 : decode cX8_number 77 = .ok (.ifCond .eq 48, 3) := by decide +kernel
theorem dX8_number_80 : decode cX8_number 80 = .ok (.iload 4, 2) := by decide +kernel
theorem dX8_number_82 : decode cX8_number 82 = .ok (.bipush 100, 2) := by decide +kernel
theorem dX8_number_84 : decode cX8_number 84 = .ok (.if_icmp .le 8, 3) := by decide +kernel
theorem dX8_number_87 : decode cX8_number 87 = .ok (.iload 4, 2) := by decide +kernel
theorem dX8_number_89 : decode cX8_number 89 = .ok (.goto 21, 3) := by decide +kernel
theorem dX8_number_92 : decode cX8_number 92 = .ok (.bipush 10, 2) := by decide +kernel
theorem dX8_number_94 : decode cX8_number 94 = .ok (.iload 4, 2) := by decide +kernel
theorem dX8_number_96 : decode cX8_number 96 = .ok (.imul, 1) := by decide +kernel
theorem dX8_number_97 : decode cX8_number 97 = .ok (.aload_n 0, 1) := by decide +kernel
theorem dX8_number_98 : decode cX8_number 98 = .ok (.getfield 22, 3) := by decide +kernel
theorem dX8_number_101 : decode cX8_number 101 = .ok (.aload_n 0, 1) := by decide +kernel
theorem dX8_number_102 : decode cX8_number 102 = .ok (.getfield 104, 3) := by decide +kernel
theorem dX8_number_105 : decode cX8_number 105 = .ok (.iaload, 1) := by decide +kernel
theorem dX8_number_106 : decode cX8_number 106 = .ok (.iadd, 1) := by decide +kernel
theorem dX8_number_107 : decode cX8_number 107 = .ok (.bipush 48, 2) := by decide +kernel
theorem dX8_number_109 : decode cX8_number 109 = .ok (.isub, 1) := by decide +kernel
theorem dX8_number_110 : decode cX8_number 110 = .ok (.istore 4, 2) := by decide +kernel
theorem dX8_number_112 : decode cX8_number 112 = .ok (.aload_n 0, 1) := by decide +kernel
theorem dX8_number_113 : decode cX8_number 113 = .ok (.dup, 1) := by decide +kernel
theorem dX8_number_114 : decode cX8_number 114 = .ok (.getfield 104, 3) := by decide +kernel
theorem dX8_number_117 : decode cX8_number 117 = .ok (.iconst 1, 1) := by decide +kernel
theorem dX8_number_118 : decode cX8_number 118 = .ok (.iadd, 1) := by decide +kernel
theorem dX8_number_119 : decode cX8_number 119 = .ok (.putfield 104, 3) := by decide +kernel
theorem dX8_number_122 : decode cX8_number 122 = .ok (.goto (-82), 3) := by decide +kernel
theorem dX8_number_125 : decode cX8_number 125 = .ok (.aload_n 0, 1) := by decide +kernel
theorem dX8_number_126 : decode cX8_number 126 = .ok (.getfield 118, 3) := by decide +kernel
theorem dX8_number_129 : decode cX8_number 129 = .ok (.ifCond .ge 14, 3) := by decide +kernel
theorem dX8_number_132 : decode cX8_number 132 = .ok (.iload 4, 2) := by decide +kernel
theorem dX8_number_134 : decode cX8_number 134 = .ok (.iload_n 1, 1) := by decide +kernel
theorem dX8_number_135 : decode cX8_number 135 = .ok (.if_icmp .le 8, 3) := by decide +kernel
theorem dX8_number_138 : decode cX8_number 138 = .ok (.aload_n 0, 1) := by decide +kernel
theorem dX8_number_139 : decode cX8_number 139 = .ok (.iload_n 3, 1) := by decide +kernel
theorem dX8_number_140 : decode cX8_number 140 = .ok (.putfield 118, 3) := by decide +kernel
theorem dX8_number_143 : decode cX8_number 143 = .ok (.iload 4, 2) := by decide +kernel
theorem dX8_number_145 : decode cX8_number 145 = .ok (.ireturn, 1) := by decide +kernel
theorem dX8_readsRock_0 : decode cX8_readsRock 0 = .ok (.iconst 4, 1) := by decide +kernel
theorem dX8_readsRock_1 : decode cX8_readsRock 1 = .ok (.aload_n 0, 1) := by decide +kernel
theorem dX8_readsRock_2 : decode cX8_readsRock 2 = .ok (.getfield 121, 3) := by decide +kernel
theorem dX8_readsRock_5 : decode cX8_readsRock 5 = .ok (.imul, 1) := by decide +kernel
theorem dX8_readsRock_6 : decode cX8_readsRock 6 = .ok (.istore_n 1, 1) := by decide +kernel
theorem dX8_readsRock_7 : decode cX8_readsRock 7 = .ok (.aload_n 0, 1) := by decide +kernel
theorem dX8_readsRock_8 : decode cX8_readsRock 8 = .ok (.getfield 25, 3) := by decide +kernel
theorem dX8_readsRock_11 : decode cX8_readsRock 11 = .ok (.iload_n 1, 1) := by decide +kernel
theorem dX8_readsRock_12 : decode cX8_readsRock 12 = .ok (.aload_n 0, 1) := by decide +kernel
theorem dX8_readsRock_13 : decode cX8_readsRock 13 = .ok (.aload_n 0, 1) := by decide +kernel
theorem dX8_readsRock_14 : decode cX8_readsRock 14 = .ok (.aload_n 0, 1) := by decide +kernel
theorem dX8_readsRock_15 : decode cX8_readsRock 15 = .ok (.invokevirtual 110, 3) := by decide +kernel
theorem dX8_readsRock_18 : decode cX8_readsRock 18 = .ok (.invokevirtual 142, 3) := by decide +kernel
theorem dX8_readsRock_21 : decode cX8_readsRock 21 = .ok (.invokevirtual 114, 3) := by decide +kernel
theorem dX8_readsRock_24 : decode cX8_readsRock 24 = .ok (.iastore, 1) := by decide +kernel
theorem dX8_readsRock_25 : decode cX8_readsRock 25 = .ok (.aload_n 0, 1) := by decide +kernel
theorem dX8_readsRock_26 : decode cX8_readsRock 26 = .ok (.invokevirtual 110, 3) := by decide +kernel
theorem dX8_readsRock_29 : decode cX8_readsRock 29 = .ok (.istore_n 2, 1) := by decide +kernel
theorem dX8_readsRock_30 : decode cX8_readsRock 30 = .ok (.aload_n 0, 1) := by decide +kernel
theorem dX8_readsRock_31 : decode cX8_readsRock 31 = .ok (.getfield 25, 3) := by decide +kernel
theorem dX8_readsRock_34 : decode cX8_readsRock 34 = .ok (.iload_n 1, 1) := by decide +kernel
theorem dX8_readsRock_35 : decode cX8_readsRock 35 = .ok (.iconst 1, 1) := by decide +kernel
theorem dX8_readsRock_36 : decode cX8_readsRock 36 = .ok (.iadd, 1) := by decide +kernel
theorem dX8_readsRock_37 : decode cX8_readsRock 37 = .ok (.aload_n 0, 1) := by decide +kernel
theorem dX8_readsRock_38 : decode cX8_readsRock 38 = .ok (.iload_n 2, 1) := by decide +kernel
theorem dX8_readsRock_39 : decode cX8_readsRock 39 = .ok (.bipush 114, 2) := by decide +kernel
theorem dX8_readsRock_41 : decode cX8_readsRock 41 = .ok (.if_icmp .ne 7, 3) := by decide +kernel
theorem dX8_readsRock_44 : decode cX8_readsRock 44 = .ok (.iconst 0, 1) := by decide +kernel
theorem dX8_readsRock_45 : decode cX8_readsRock 45 = .ok (.goto 14, 3) := by decide +kernel
theorem dX8_readsRock_48 : decode cX8_readsRock 48 = .ok (.iload_n 2, 1) := by decide +kernel
theorem dX8_readsRock_49 : decode cX8_readsRock 49 = .ok (.bipush 103, 2) := by decide +kernel
theorem dX8_readsRock_51 : decode cX8_readsRock 51 = .ok (.if_icmp .ne 7, 3) := by decide +kernel
theorem dX8_readsRock_54 : decode cX8_readsRock 54 = .ok (.iconst 1, 1) := by decide +kernel
theorem dX8_readsRock_55 : decode cX8_readsRock 55 = .ok (.goto 4, 3) := by decide +kernel
theorem dX8_readsRock_58 : decode cX8_readsRock 58 = .ok (.iconst (-1), 1) := by decide +kernel
theorem dX8_readsRock_59 : decode cX8_readsRock 59 = .ok (.invokevirtual 114, 3) := by decide +kernel
theorem dX8_readsRock_62 : decode cX8_readsRock 62 = .ok (.iastore, 1) := by decide +kernel
theorem dX8_readsRock_63 : decode cX8_readsRock 63 = .ok (.aload_n 0, 1) := by decide +kernel
theorem dX8_readsRock_64 : decode cX8_readsRock 64 = .ok (.getfield 25, 3) := by decide +kernel
theorem dX8_readsRock_67 : decode cX8_readsRock 67 = .ok (.iload_n 1, 1) := by decide +kernel
theorem dX8_readsRock_68 : decode cX8_readsRock 68 = .ok (.iconst 2, 1) := by decide +kernel
theorem dX8_readsRock_69 : decode cX8_readsRock 69 = .ok (.iadd, 1) := by decide +kernel
theorem dX8_readsRock_70 : decode cX8_readsRock 70 = .ok (.iconst 0, 1) := by decide +kernel
theorem dX8_readsRock_71 : decode cX8_readsRock 71 = .ok (.iastore, 1) := by decide +kernel
theorem dX8_readsRock_72 : decode cX8_readsRock 72 = .ok (.aload_n 0, 1) := by decide +kernel
theorem dX8_readsRock_73 : decode cX8_readsRock 73 = .ok (.getfield 25, 3) := by decide +kernel
theorem dX8_readsRock_76 : decode cX8_readsRock 76 = .ok (.iload_n 1, 1) := by decide +kernel
theorem dX8_readsRock_77 : decode cX8_readsRock 77 = .ok (.iconst 3, 1) := by decide +kernel
theorem dX8_readsRock_78 : decode cX8_readsRock 78 = .ok (.iadd, 1) := by decide +kernel
theorem dX8_readsRock_79 : decode cX8_readsRock 79 = .ok (.iconst 0, 1) := by decide +kernel
theorem dX8_readsRock_80 : decode cX8_readsRock 80 = .ok (.iastore, 1) := by decide +kernel
theorem dX8_readsRock_81 : decode cX8_readsRock 81 = .ok (.aload_n 0, 1) := by decide +kernel
theorem dX8_readsRock_82 : decode cX8_readsRock 82 = .ok (.getfield 118, 3) := by decide +kernel
theorem dX8_readsRock_85 : decode cX8_readsRock 85 = .ok (.ifCond .ge 67, 3) := by decide +kernel
theorem dX8_readsRock_88 : decode cX8_readsRock 88 = .ok (.aload_n 0, 1) := by decide +kernel
theorem dX8_readsRock_89 : decode cX8_readsRock 89 = .ok (.invokevirtual 110, 3) := by decide +kernel
theorem dX8_readsRock_92 : decode cX8_readsRock 92 = .ok (.bipush 100, 2) := by decide +kernel
theorem dX8_readsRock_94 : decode cX8_readsRock 94 = .ok (.if_icmp .ne 58, 3) := by decide +kernel
theorem dX8_readsRock_97 : decode cX8_readsRock 97 = .ok (.aload_n 0, 1) := by decide +kernel
theorem dX8_readsRock_98 : decode cX8_readsRock 98 = .ok (.iconst 0, 1) := by decide +kernel
theorem dX8_readsRock_99 : decode cX8_readsRock 99 = .ok (.invokevirtual 114, 3) := by decide +kernel
theorem dX8_readsRock_102 : decode cX8_readsRock 102 = .ok (.pop, 1) := by decide +kernel
theorem dX8_readsRock_103 : decode cX8_readsRock 103 = .ok (.aload_n 0, 1) := by decide +kernel
theorem dX8_readsRock_104 : decode cX8_readsRock 104 = .ok (.getfield 25, 3) := by decide +kernel
theorem dX8_readsRock_107 : decode cX8_readsRock 107 = .ok (.iload_n 1, 1) := by decide +kernel
theorem dX8_readsRock_108 : decode cX8_readsRock 108 = .ok (.iconst 2, 1) := by decide +kernel
theorem dX8_readsRock_109 : decode cX8_readsRock 109 = .ok (.iadd, 1) := by decide +kernel
theorem dX8_readsRock_110 : decode cX8_readsRock 110 = .ok (.aload_n 0, 1) := by decide +kernel
theorem dX8_readsRock_111 : decode cX8_readsRock 111 = .ok (.bipush 99, 2) := by decide +kernel
theorem dX8_readsRock_113 : decode cX8_readsRock 113 = .ok (.invokevirtual 145, 3) := by decide +kernel
theorem dX8_readsRock_116 : decode cX8_readsRock 116 = .ok (.iastore, 1) := by decide +kernel
theorem dX8_readsRock_117 : decode cX8_readsRock 117 = .ok (.aload_n 0, 1) := by decide +kernel
theorem dX8_readsRock_118 : decode cX8_readsRock 118 = .ok (.invokevirtual 110, 3) := by decide +kernel
theorem dX8_readsRock_121 : decode cX8_readsRock 121 = .ok (.istore_n 3, 1) := by decide +kernel
theorem dX8_readsRock_122 : decode cX8_readsRock 122 = .ok (.aload_n 0, 1) := by decide +kernel
theorem dX8_readsRock_123 : decode cX8_readsRock 123 = .ok (.iload_n 3, 1) := by decide +kernel
theorem dX8_readsRock_124 : decode cX8_readsRock 124 = .ok (.bipush 45, 2) := by decide +kernel
theorem dX8_readsRock_126 : decode cX8_readsRock 126 = .ok (.if_icmp .ne 7, 3) := by decide +kernel
theorem dX8_readsRock_129 : decode cX8_readsRock 129 = .ok (.iconst 0, 1) := by decide +kernel
theorem dX8_readsRock_130 : decode cX8_readsRock 130 = .ok (.goto 4, 3) := by decide +kernel
theorem dX8_readsRock_133 : decode cX8_readsRock 133 = .ok (.iconst (-1), 1) := by decide +kernel
theorem dX8_readsRock_134 : decode cX8_readsRock 134 = .ok (.invokevirtual 114, 3) := by decide +kernel
theorem dX8_readsRock_137 : decode cX8_readsRock 137 = .ok (.pop, 1) := by decide +kernel
theorem dX8_readsRock_138 : decode cX8_readsRock 138 = .ok (.aload_n 0, 1) := by decide +kernel
theorem dX8_readsRock_139 : decode cX8_readsRock 139 = .ok (.getfield 25, 3) := by decide +kernel
theorem dX8_readsRock_142 : decode cX8_readsRock 142 = .ok (.iload_n 1, 1) := by decide +kernel
theorem dX8_readsRock_143 : decode cX8_readsRock 143 = .ok (.iconst 3, 1) := by decide +kernel
theorem dX8_readsRock_144 : decode cX8_readsRock 144 = .ok (.iadd, 1) := by decide +kernel
theorem dX8_readsRock_145 : decode cX8_readsRock 145 = .ok (.aload_n 0, 1) := by decide +kernel
theorem dX8_readsRock_146 : decode cX8_readsRock 146 = .ok (.bipush 100, 2) := by decide +kernel
theorem dX8_readsRock_148 : decode cX8_readsRock 148 = .ok (.invokevirtual 145, 3) := by decide +kernel
theorem dX8_readsRock_151 : decode cX8_readsRock 151 = .ok (.iastore, 1) := by decide +kernel
theorem dX8_readsRock_152 : decode cX8_readsRock 152 = .ok (.return_, 1) := by decide +kernel
theorem dX8_rocks_0 : decode cX8_rocks 0 = .ok (.aload_n 0, 1) := by decide +kernel
theorem dX8_rocks_1 : decode cX8_rocks 1 = .ok (.iconst 0, 1) := by decide +kernel
theorem dX8_rocks_2 : decode cX8_rocks 2 = .ok (.putfield 48, 3) := by decide +kernel
theorem dX8_rocks_5 : decode cX8_rocks 5 = .ok (.aload_n 0, 1) := by decide +kernel
theorem dX8_rocks_6 : decode cX8_rocks 6 = .ok (.iconst 0, 1) := by decide +kernel
theorem dX8_rocks_7 : decode cX8_rocks 7 = .ok (.invokevirtual 138, 3) := by decide +kernel
theorem dX8_rocks_10 : decode cX8_rocks 10 = .ok (.aload_n 0, 1) := by decide +kernel
theorem dX8_rocks_11 : decode cX8_rocks 11 = .ok (.getfield 118, 3) := by decide +kernel
theorem dX8_rocks_14 : decode cX8_rocks 14 = .ok (.ifCond .lt 11, 3) := by decide +kernel
theorem dX8_rocks_17 : decode cX8_rocks 17 = .ok (.bipush (-20), 2) := by decide +kernel
theorem dX8_rocks_19 : decode cX8_rocks 19 = .ok (.aload_n 0, 1) := by decide +kernel
theorem dX8_rocks_20 : decode cX8_rocks 20 = .ok (.getfield 118, 3) := by decide +kernel
theorem dX8_rocks_23 : decode cX8_rocks 23 = .ok (.isub, 1) := by decide +kernel
theorem dX8_rocks_24 : decode cX8_rocks 24 = .ok (.ireturn, 1) := by decide +kernel
theorem dX8_rocks_25 : decode cX8_rocks 25 = .ok (.aload_n 0, 1) := by decide +kernel
theorem dX8_rocks_26 : decode cX8_rocks 26 = .ok (.getfield 7, 3) := by decide +kernel
theorem dX8_rocks_29 : decode cX8_rocks 29 = .ok (.iconst 0, 1) := by decide +kernel
theorem dX8_rocks_30 : decode cX8_rocks 30 = .ok (.iconst 0, 1) := by decide +kernel
theorem dX8_rocks_31 : decode cX8_rocks 31 = .ok (.iastore, 1) := by decide +kernel
theorem dX8_rocks_32 : decode cX8_rocks 32 = .ok (.aload_n 0, 1) := by decide +kernel
theorem dX8_rocks_33 : decode cX8_rocks 33 = .ok (.getfield 7, 3) := by decide +kernel
theorem dX8_rocks_36 : decode cX8_rocks 36 = .ok (.iconst 1, 1) := by decide +kernel
theorem dX8_rocks_37 : decode cX8_rocks 37 = .ok (.iconst 0, 1) := by decide +kernel
theorem dX8_rocks_38 : decode cX8_rocks 38 = .ok (.iastore, 1) := by decide +kernel
theorem dX8_rocks_39 : decode cX8_rocks 39 = .ok (.aload_n 0, 1) := by decide +kernel
theorem dX8_rocks_40 : decode cX8_rocks 40 = .ok (.getfield 7, 3) := by decide +kernel
theorem dX8_rocks_43 : decode cX8_rocks 43 = .ok (.iconst 2, 1) := by decide +kernel
theorem dX8_rocks_44 : decode cX8_rocks 44 = .ok (.iconst 0, 1) := by decide +kernel
theorem dX8_rocks_45 : decode cX8_rocks 45 = .ok (.iastore, 1) := by decide +kernel
theorem dX8_rocks_46 : decode cX8_rocks 46 = .ok (.iconst 0, 1) := by decide +kernel
theorem dX8_rocks_47 : decode cX8_rocks 47 = .ok (.istore_n 1, 1) := by decide +kernel
theorem dX8_rocks_48 : decode cX8_rocks 48 = .ok (.iload_n 1, 1) := by decide +kernel
theorem dX8_rocks_49 : decode cX8_rocks 49 = .ok (.bipush 81, 2) := by decide +kernel
theorem dX8_rocks_51 : decode cX8_rocks 51 = .ok (.if_icmp .ge 38, 3) := by decide +kernel
theorem dX8_rocks_54 : decode cX8_rocks 54 = .ok (.aload_n 0, 1) := by decide +kernel
theorem dX8_rocks_55 : decode cX8_rocks 55 = .ok (.getfield 7, 3) := by decide +kernel
theorem dX8_rocks_58 : decode cX8_rocks 58 = .ok (.bipush 60, 2) := by decide +kernel
theorem dX8_rocks_60 : decode cX8_rocks 60 = .ok (.iload_n 1, 1) := by decide +kernel
theorem dX8_rocks_61 : decode cX8_rocks 61 = .ok (.iadd, 1) := by decide +kernel
theorem dX8_rocks_62 : decode cX8_rocks 62 = .ok (.iconst 1, 1) := by decide +kernel
theorem dX8_rocks_63 : decode cX8_rocks 63 = .ok (.iastore, 1) := by decide +kernel
theorem dX8_rocks_64 : decode cX8_rocks 64 = .ok (.aload_n 0, 1) := by decide +kernel
theorem dX8_rocks_65 : decode cX8_rocks 65 = .ok (.getfield 7, 3) := by decide +kernel
theorem dX8_rocks_68 : decode cX8_rocks 68 = .ok (.sipush 141, 3) := by decide +kernel
theorem dX8_rocks_71 : decode cX8_rocks 71 = .ok (.iload_n 1, 1) := by decide +kernel
theorem dX8_rocks_72 : decode cX8_rocks 72 = .ok (.iadd, 1) := by decide +kernel
theorem dX8_rocks_73 : decode cX8_rocks 73 = .ok (.iconst 2, 1) := by decide +kernel
theorem dX8_rocks_74 : decode cX8_rocks 74 = .ok (.iastore, 1) := by decide +kernel
theorem dX8_rocks_75 : decode cX8_rocks 75 = .ok (.aload_n 0, 1) := by decide +kernel
theorem dX8_rocks_76 : decode cX8_rocks 76 = .ok (.getfield 7, 3) := by decide +kernel
theorem dX8_rocks_79 : decode cX8_rocks 79 = .ok (.iload_n 1, 1) := by decide +kernel
theorem dX8_rocks_80 : decode cX8_rocks 80 = .ok (.invokestatic 55, 3) := by decide +kernel
theorem dX8_rocks_83 : decode cX8_rocks 83 = .ok (.iinc 1 1, 3) := by decide +kernel
theorem dX8_rocks_86 : decode cX8_rocks 86 = .ok (.goto (-38), 3) := by decide +kernel
theorem dX8_rocks_89 : decode cX8_rocks 89 = .ok (.iconst 0, 1) := by decide +kernel
theorem dX8_rocks_90 : decode cX8_rocks 90 = .ok (.istore_n 1, 1) := by decide +kernel
theorem dX8_rocks_91 : decode cX8_rocks 91 = .ok (.iload_n 1, 1) := by decide +kernel
theorem dX8_rocks_92 : decode cX8_rocks 92 = .ok (.aload_n 0, 1) := by decide +kernel
theorem dX8_rocks_93 : decode cX8_rocks 93 = .ok (.getfield 121, 3) := by decide +kernel
theorem dX8_rocks_96 : decode cX8_rocks 96 = .ok (.if_icmp .ge 54, 3) := by decide +kernel
theorem dX8_rocks_99 : decode cX8_rocks 99 = .ok (.aload_n 0, 1) := by decide +kernel
theorem dX8_rocks_100 : decode cX8_rocks 100 = .ok (.getfield 7, 3) := by decide +kernel
theorem dX8_rocks_103 : decode cX8_rocks 103 = .ok (.aload_n 0, 1) := by decide +kernel
theorem dX8_rocks_104 : decode cX8_rocks 104 = .ok (.getfield 25, 3) := by decide +kernel
theorem dX8_rocks_107 : decode cX8_rocks 107 = .ok (.iconst 4, 1) := by decide +kernel
theorem dX8_rocks_108 : decode cX8_rocks 108 = .ok (.iload_n 1, 1) := by decide +kernel
theorem dX8_rocks_109 : decode cX8_rocks 109 = .ok (.imul, 1) := by decide +kernel
theorem dX8_rocks_110 : decode cX8_rocks 110 = .ok (.iaload, 1) := by decide +kernel
theorem dX8_rocks_111 : decode cX8_rocks 111 = .ok (.aload_n 0, 1) := by decide +kernel
theorem dX8_rocks_112 : decode cX8_rocks 112 = .ok (.getfield 25, 3) := by decide +kernel
theorem dX8_rocks_115 : decode cX8_rocks 115 = .ok (.iconst 4, 1) := by decide +kernel
theorem dX8_rocks_116 : decode cX8_rocks 116 = .ok (.iload_n 1, 1) := by decide +kernel
theorem dX8_rocks_117 : decode cX8_rocks 117 = .ok (.imul, 1) := by decide +kernel
theorem dX8_rocks_118 : decode cX8_rocks 118 = .ok (.iconst 1, 1) := by decide +kernel
theorem dX8_rocks_119 : decode cX8_rocks 119 = .ok (.iadd, 1) := by decide +kernel
theorem dX8_rocks_120 : decode cX8_rocks 120 = .ok (.iaload, 1) := by decide +kernel
theorem dX8_rocks_121 : decode cX8_rocks 121 = .ok (.aload_n 0, 1) := by decide +kernel
theorem dX8_rocks_122 : decode cX8_rocks 122 = .ok (.getfield 25, 3) := by decide +kernel
theorem dX8_rocks_125 : decode cX8_rocks 125 = .ok (.iconst 4, 1) := by decide +kernel
theorem dX8_rocks_126 : decode cX8_rocks 126 = .ok (.iload_n 1, 1) := by decide +kernel
theorem dX8_rocks_127 : decode cX8_rocks 127 = .ok (.imul, 1) := by decide +kernel
theorem dX8_rocks_128 : decode cX8_rocks 128 = .ok (.iconst 2, 1) := by decide +kernel
theorem dX8_rocks_129 : decode cX8_rocks 129 = .ok (.iadd, 1) := by decide +kernel
theorem dX8_rocks_130 : decode cX8_rocks 130 = .ok (.iaload, 1) := by decide +kernel
theorem dX8_rocks_131 : decode cX8_rocks 131 = .ok (.aload_n 0, 1) := by decide +kernel
theorem dX8_rocks_132 : decode cX8_rocks 132 = .ok (.getfield 25, 3) := by decide +kernel
theorem dX8_rocks_135 : decode cX8_rocks 135 = .ok (.iconst 4, 1) := by decide +kernel
theorem dX8_rocks_136 : decode cX8_rocks 136 = .ok (.iload_n 1, 1) := by decide +kernel
theorem dX8_rocks_137 : decode cX8_rocks 137 = .ok (.imul, 1) := by decide +kernel
theorem dX8_rocks_138 : decode cX8_rocks 138 = .ok (.iconst 3, 1) := by decide +kernel
theorem dX8_rocks_139 : decode cX8_rocks 139 = .ok (.iadd, 1) := by decide +kernel
theorem dX8_rocks_140 : decode cX8_rocks 140 = .ok (.iaload, 1) := by decide +kernel
theorem dX8_rocks_141 : decode cX8_rocks 141 = .ok (.invokestatic 61, 3) := by decide +kernel
theorem dX8_rocks_144 : decode cX8_rocks 144 = .ok (.iinc 1 1, 3) := by decide +kernel
theorem dX8_rocks_147 : decode cX8_rocks 147 = .ok (.goto (-56), 3) := by decide +kernel
theorem dX8_rocks_150 : decode cX8_rocks 150 = .ok (.aload_n 0, 1) := by decide +kernel
theorem dX8_rocks_151 : decode cX8_rocks 151 = .ok (.getfield 121, 3) := by decide +kernel
theorem dX8_rocks_154 : decode cX8_rocks 154 = .ok (.ireturn, 1) := by decide +kernel
theorem dX8_isDone_0 : decode cX8_isDone 0 = .ok (.iconst 1, 1) := by decide +kernel
theorem dX8_isDone_1 : decode cX8_isDone 1 = .ok (.istore_n 2, 1) := by decide +kernel
theorem dX8_isDone_2 : decode cX8_isDone 2 = .ok (.iconst 0, 1) := by decide +kernel
theorem dX8_isDone_3 : decode cX8_isDone 3 = .ok (.istore_n 3, 1) := by decide +kernel
theorem dX8_isDone_4 : decode cX8_isDone 4 = .ok (.iload_n 3, 1) := by decide +kernel
theorem dX8_isDone_5 : decode cX8_isDone 5 = .ok (.aload_n 0, 1) := by decide +kernel
theorem dX8_isDone_6 : decode cX8_isDone 6 = .ok (.iconst 0, 1) := by decide +kernel
theorem dX8_isDone_7 : decode cX8_isDone 7 = .ok (.iaload, 1) := by decide +kernel
theorem dX8_isDone_8 : decode cX8_isDone 8 = .ok (.if_icmp .ge 47, 3) := by decide +kernel
theorem dX8_isDone_11 : decode cX8_isDone 11 = .ok (.iload_n 2, 1) := by decide +kernel
theorem dX8_isDone_12 : decode cX8_isDone 12 = .ok (.ifCond .eq 35, 3) := by decide +kernel
theorem dX8_isDone_15 : decode cX8_isDone 15 = .ok (.iload_n 3, 1) := by decide +kernel
theorem dX8_isDone_16 : decode cX8_isDone 16 = .ok (.iload_n 1, 1) := by decide +kernel
theorem dX8_isDone_17 : decode cX8_isDone 17 = .ok (.if_icmp .eq 26, 3) := by decide +kernel
theorem dX8_isDone_20 : decode cX8_isDone 20 = .ok (.aload_n 0, 1) := by decide +kernel
theorem dX8_isDone_21 : decode cX8_isDone 21 = .ok (.iload_n 3, 1) := by decide +kernel
theorem dX8_isDone_22 : decode cX8_isDone 22 = .ok (.invokestatic 81, 3) := by decide +kernel
theorem dX8_isDone_25 : decode cX8_isDone 25 = .ok (.ifCond .eq 18, 3) := by decide +kernel
theorem dX8_isDone_28 : decode cX8_isDone 28 = .ok (.aload_n 0, 1) := by decide +kernel
theorem dX8_isDone_29 : decode cX8_isDone 29 = .ok (.bipush 6, 2) := by decide +kernel
theorem dX8_isDone_31 : decode cX8_isDone 31 = .ok (.bipush 6, 2) := by decide +kernel
theorem dX8_isDone_33 : decode cX8_isDone 33 = .ok (.iload_n 3, 1) := by decide +kernel
theorem dX8_isDone_34 : decode cX8_isDone 34 = .ok (.imul, 1) := by decide +kernel
theorem dX8_isDone_35 : decode cX8_isDone 35 = .ok (.iadd, 1) := by decide +kernel
theorem dX8_isDone_36 : decode cX8_isDone 36 = .ok (.iconst 2, 1) := by decide +kernel
theorem dX8_isDone_37 : decode cX8_isDone 37 = .ok (.iadd, 1) := by decide +kernel
theorem dX8_isDone_38 : decode cX8_isDone 38 = .ok (.iaload, 1) := by decide +kernel
theorem dX8_isDone_39 : decode cX8_isDone 39 = .ok (.iconst 2, 1) := by decide +kernel
theorem dX8_isDone_40 : decode cX8_isDone 40 = .ok (.if_icmp .ge 7, 3) := by decide +kernel
theorem dX8_isDone_43 : decode cX8_isDone 43 = .ok (.iconst 1, 1) := by decide +kernel
theorem dX8_isDone_44 : decode cX8_isDone 44 = .ok (.goto 4, 3) := by decide +kernel
theorem dX8_isDone_47 : decode cX8_isDone 47 = .ok (.iconst 0, 1) := by decide +kernel
theorem dX8_isDone_48 : decode cX8_isDone 48 = .ok (.istore_n 2, 1) := by decide +kernel
theorem dX8_isDone_49 : decode cX8_isDone 49 = .ok (.iinc 3 1, 3) := by decide +kernel
theorem dX8_isDone_52 : decode cX8_isDone 52 = .ok (.goto (-48), 3) := by decide +kernel
theorem dX8_isDone_55 : decode cX8_isDone 55 = .ok (.iload_n 2, 1) := by decide +kernel
theorem dX8_isDone_56 : decode cX8_isDone 56 = .ok (.ireturn, 1) := by decide +kernel
theorem dX8_isUnlike_0 : decode cX8_isUnlike 0 = .ok (.iconst 0, 1) := by decide +kernel
theorem dX8_isUnlike_1 : decode cX8_isUnlike 1 = .ok (.istore_n 1, 1) := by decide +kernel
theorem dX8_isUnlike_2 : decode cX8_isUnlike 2 = .ok (.iconst 0, 1) := by decide +kernel
theorem dX8_isUnlike_3 : decode cX8_isUnlike 3 = .ok (.istore_n 2, 1) := by decide +kernel
theorem dX8_isUnlike_4 : decode cX8_isUnlike 4 = .ok (.iload_n 2, 1) := by decide +kernel
theorem dX8_isUnlike_5 : decode cX8_isUnlike 5 = .ok (.aload_n 0, 1) := by decide +kernel
theorem dX8_isUnlike_6 : decode cX8_isUnlike 6 = .ok (.iconst 0, 1) := by decide +kernel
theorem dX8_isUnlike_7 : decode cX8_isUnlike 7 = .ok (.iaload, 1) := by decide +kernel
theorem dX8_isUnlike_8 : decode cX8_isUnlike 8 = .ok (.if_icmp .ge 37, 3) := by decide +kernel
theorem dX8_isUnlike_11 : decode cX8_isUnlike 11 = .ok (.iload_n 1, 1) := by decide +kernel
theorem dX8_isUnlike_12 : decode cX8_isUnlike 12 = .ok (.aload_n 0, 1) := by decide +kernel
theorem dX8_isUnlike_13 : decode cX8_isUnlike 13 = .ok (.iload_n 2, 1) := by decide +kernel
theorem dX8_isUnlike_14 : decode cX8_isUnlike 14 = .ok (.invokestatic 81, 3) := by decide +kernel
theorem dX8_isUnlike_17 : decode cX8_isUnlike 17 = .ok (.ifCond .eq 19, 3) := by decide +kernel
theorem dX8_isUnlike_20 : decode cX8_isUnlike 20 = .ok (.iconst 1, 1) := by decide +kernel
theorem dX8_isUnlike_21 : decode cX8_isUnlike 21 = .ok (.aload_n 0, 1) := by decide +kernel
theorem dX8_isUnlike_22 : decode cX8_isUnlike 22 = .ok (.bipush 6, 2) := by decide +kernel
theorem dX8_isUnlike_24 : decode cX8_isUnlike 24 = .ok (.bipush 6, 2) := by decide +kernel
theorem dX8_isUnlike_26 : decode cX8_isUnlike 26 = .ok (.iload_n 2, 1) := by decide +kernel
theorem dX8_isUnlike_27 : decode cX8_isUnlike 27 = .ok (.imul, 1) := by decide +kernel
theorem dX8_isUnlike_28 : decode cX8_isUnlike 28 = .ok (.iadd, 1) := by decide +kernel
theorem dX8_isUnlike_29 : decode cX8_isUnlike 29 = .ok (.iconst 2, 1) := by decide +kernel
theorem dX8_isUnlike_30 : decode cX8_isUnlike 30 = .ok (.iadd, 1) := by decide +kernel
theorem dX8_isUnlike_31 : decode cX8_isUnlike 31 = .ok (.iaload, 1) := by decide +kernel
theorem dX8_isUnlike_32 : decode cX8_isUnlike 32 = .ok (.ishl, 1) := by decide +kernel
theorem dX8_isUnlike_33 : decode cX8_isUnlike 33 = .ok (.goto 4, 3) := by decide +kernel
theorem dX8_isUnlike_36 : decode cX8_isUnlike 36 = .ok (.iconst 0, 1) := by decide +kernel
theorem dX8_isUnlike_37 : decode cX8_isUnlike 37 = .ok (.ior, 1) := by decide +kernel
theorem dX8_isUnlike_38 : decode cX8_isUnlike 38 = .ok (.istore_n 1, 1) := by decide +kernel
theorem dX8_isUnlike_39 : decode cX8_isUnlike 39 = .ok (.iinc 2 1, 3) := by decide +kernel
theorem dX8_isUnlike_42 : decode cX8_isUnlike 42 = .ok (.goto (-38), 3) := by decide +kernel
theorem dX8_isUnlike_45 : decode cX8_isUnlike 45 = .ok (.iload_n 1, 1) := by decide +kernel
theorem dX8_isUnlike_46 : decode cX8_isUnlike 46 = .ok (.iconst 3, 1) := by decide +kernel
theorem dX8_isUnlike_47 : decode cX8_isUnlike 47 = .ok (.iand, 1) := by decide +kernel
theorem dX8_isUnlike_48 : decode cX8_isUnlike 48 = .ok (.iconst 3, 1) := by decide +kernel
theorem dX8_isUnlike_49 : decode cX8_isUnlike 49 = .ok (.if_icmp .ne 7, 3) := by decide +kernel
theorem dX8_isUnlike_52 : decode cX8_isUnlike 52 = .ok (.iconst 1, 1) := by decide +kernel
theorem dX8_isUnlike_53 : decode cX8_isUnlike 53 = .ok (.goto 4, 3) := by decide +kernel
theorem dX8_isUnlike_56 : decode cX8_isUnlike 56 = .ok (.iconst 0, 1) := by decide +kernel
theorem dX8_isUnlike_57 : decode cX8_isUnlike 57 = .ok (.ireturn, 1) := by decide +kernel
theorem dX8_dueMany_0 : decode cX8_dueMany 0 = .ok (.iconst 0, 1) := by decide +kernel
theorem dX8_dueMany_1 : decode cX8_dueMany 1 = .ok (.istore_n 1, 1) := by decide +kernel
theorem dX8_dueMany_2 : decode cX8_dueMany 2 = .ok (.sipush 222, 3) := by decide +kernel
theorem dX8_dueMany_5 : decode cX8_dueMany 5 = .ok (.istore_n 2, 1) := by decide +kernel
theorem dX8_dueMany_6 : decode cX8_dueMany 6 = .ok (.iload_n 2, 1) := by decide +kernel
theorem dX8_dueMany_7 : decode cX8_dueMany 7 = .ok (.sipush 1761, 3) := by decide +kernel
theorem dX8_dueMany_10 : decode cX8_dueMany 10 = .ok (.if_icmp .ge 26, 3) := by decide +kernel
theorem dX8_dueMany_13 : decode cX8_dueMany 13 = .ok (.iload_n 1, 1) := by decide +kernel
theorem dX8_dueMany_14 : decode cX8_dueMany 14 = .ok (.aload_n 0, 1) := by decide +kernel
theorem dX8_dueMany_15 : decode cX8_dueMany 15 = .ok (.getfield 7, 3) := by decide +kernel
theorem dX8_dueMany_18 : decode cX8_dueMany 18 = .ok (.iload_n 2, 1) := by decide +kernel
theorem dX8_dueMany_19 : decode cX8_dueMany 19 = .ok (.iaload, 1) := by decide +kernel
theorem dX8_dueMany_20 : decode cX8_dueMany 20 = .ok (.ifCond .le 7, 3) := by decide +kernel
theorem dX8_dueMany_23 : decode cX8_dueMany 23 = .ok (.iconst 1, 1) := by decide +kernel
theorem dX8_dueMany_24 : decode cX8_dueMany 24 = .ok (.goto 4, 3) := by decide +kernel
theorem dX8_dueMany_27 : decode cX8_dueMany 27 = .ok (.iconst 0, 1) := by decide +kernel
theorem dX8_dueMany_28 : decode cX8_dueMany 28 = .ok (.iadd, 1) := by decide +kernel
theorem dX8_dueMany_29 : decode cX8_dueMany 29 = .ok (.istore_n 1, 1) := by decide +kernel
theorem dX8_dueMany_30 : decode cX8_dueMany 30 = .ok (.iinc 2 1, 3) := by decide +kernel
theorem dX8_dueMany_33 : decode cX8_dueMany 33 = .ok (.goto (-27), 3) := by decide +kernel
theorem dX8_dueMany_36 : decode cX8_dueMany 36 = .ok (.iload_n 1, 1) := by decide +kernel
theorem dX8_dueMany_37 : decode cX8_dueMany 37 = .ok (.ireturn, 1) := by decide +kernel
theorem dX8_count_0 : decode cX8_count 0 = .ok (.aload_n 0, 1) := by decide +kernel
theorem dX8_count_1 : decode cX8_count 1 = .ok (.iconst 0, 1) := by decide +kernel
theorem dX8_count_2 : decode cX8_count 2 = .ok (.putfield 48, 3) := by decide +kernel
theorem dX8_count_5 : decode cX8_count 5 = .ok (.iload_n 1, 1) := by decide +kernel
theorem dX8_count_6 : decode cX8_count 6 = .ok (.i2l, 1) := by decide +kernel
theorem dX8_count_7 : decode cX8_count 7 = .ok (.lconst 0, 1) := by decide +kernel
theorem dX8_count_8 : decode cX8_count 8 = .ok (.ldc2_w 79, 3) := by decide +kernel
theorem dX8_count_11 : decode cX8_count 11 = .ok (.invokestatic 51, 3) := by decide +kernel
theorem dX8_count_14 : decode cX8_count 14 = .ok (.ifCond .ne 5, 3) := by decide +kernel
theorem dX8_count_17 : decode cX8_count 17 = .ok (.iconst (-1), 1) := by decide +kernel
theorem dX8_count_18 : decode cX8_count 18 = .ok (.ireturn, 1) := by decide +kernel
theorem dX8_count_19 : decode cX8_count 19 = .ok (.iload_n 1, 1) := by decide +kernel
theorem dX8_count_20 : decode cX8_count 20 = .ok (.iconst 5, 1) := by decide +kernel
theorem dX8_count_21 : decode cX8_count 21 = .ok (.if_icmp .ge 65, 3) := by decide +kernel
theorem dX8_count_24 : decode cX8_count 24 = .ok (.iload_n 1, 1) := by decide +kernel
theorem dX8_count_25 : decode cX8_count 25 = .ok (.ifCond .ne 12, 3) := by decide +kernel
theorem dX8_count_28 : decode cX8_count 28 = .ok (.aload_n 0, 1) := by decide +kernel
theorem dX8_count_29 : decode cX8_count 29 = .ok (.getfield 7, 3) := by decide +kernel
theorem dX8_count_32 : decode cX8_count 32 = .ok (.iconst 0, 1) := by decide +kernel
theorem dX8_count_33 : decode cX8_count 33 = .ok (.iaload, 1) := by decide +kernel
theorem dX8_count_34 : decode cX8_count 34 = .ok (.goto 51, 3) := by decide +kernel
theorem dX8_count_37 : decode cX8_count 37 = .ok (.iload_n 1, 1) := by decide +kernel
theorem dX8_count_38 : decode cX8_count 38 = .ok (.iconst 1, 1) := by decide +kernel
theorem dX8_count_39 : decode cX8_count 39 = .ok (.if_icmp .ne 12, 3) := by decide +kernel
theorem dX8_count_42 : decode cX8_count 42 = .ok (.aload_n 0, 1) := by decide +kernel
theorem dX8_count_43 : decode cX8_count 43 = .ok (.getfield 7, 3) := by decide +kernel
theorem dX8_count_46 : decode cX8_count 46 = .ok (.iconst 3, 1) := by decide +kernel
theorem dX8_count_47 : decode cX8_count 47 = .ok (.iaload, 1) := by decide +kernel
theorem dX8_count_48 : decode cX8_count 48 = .ok (.goto 37, 3) := by decide +kernel
theorem dX8_count_51 : decode cX8_count 51 = .ok (.iload_n 1, 1) := by decide +kernel
theorem dX8_count_52 : decode cX8_count 52 = .ok (.iconst 2, 1) := by decide +kernel
theorem dX8_count_53 : decode cX8_count 53 = .ok (.if_icmp .ne 12, 3) := by decide +kernel
theorem dX8_count_56 : decode cX8_count 56 = .ok (.aload_n 0, 1) := by decide +kernel
theorem dX8_count_57 : decode cX8_count 57 = .ok (.getfield 7, 3) := by decide +kernel
theorem dX8_count_60 : decode cX8_count 60 = .ok (.iconst 1, 1) := by decide +kernel
theorem dX8_count_61 : decode cX8_count 61 = .ok (.iaload, 1) := by decide +kernel
theorem dX8_count_62 : decode cX8_count 62 = .ok (.goto 23, 3) := by decide +kernel
theorem dX8_count_65 : decode cX8_count 65 = .ok (.iload_n 1, 1) := by decide +kernel
theorem dX8_count_66 : decode cX8_count 66 = .ok (.iconst 3, 1) := by decide +kernel
theorem dX8_count_67 : decode cX8_count 67 = .ok (.if_icmp .ne 12, 3) := by decide +kernel
theorem dX8_count_70 : decode cX8_count 70 = .ok (.aload_n 0, 1) := by decide +kernel
theorem dX8_count_71 : decode cX8_count 71 = .ok (.getfield 7, 3) := by decide +kernel
theorem dX8_count_74 : decode cX8_count 74 = .ok (.iconst 2, 1) := by decide +kernel
theorem dX8_count_75 : decode cX8_count 75 = .ok (.iaload, 1) := by decide +kernel
theorem dX8_count_76 : decode cX8_count 76 = .ok (.goto 9, 3) := by decide +kernel
theorem dX8_count_79 : decode cX8_count 79 = .ok (.aload_n 0, 1) := by decide +kernel
theorem dX8_count_80 : decode cX8_count 80 = .ok (.getfield 7, 3) := by decide +kernel
theorem dX8_count_83 : decode cX8_count 83 = .ok (.iconst 4, 1) := by decide +kernel
theorem dX8_count_84 : decode cX8_count 84 = .ok (.iaload, 1) := by decide +kernel
theorem dX8_count_85 : decode cX8_count 85 = .ok (.ireturn, 1) := by decide +kernel
theorem dX8_count_86 : decode cX8_count 86 = .ok (.iload_n 1, 1) := by decide +kernel
theorem dX8_count_87 : decode cX8_count 87 = .ok (.iconst 5, 1) := by decide +kernel
theorem dX8_count_88 : decode cX8_count 88 = .ok (.if_icmp .ne 22, 3) := by decide +kernel
theorem dX8_count_91 : decode cX8_count 91 = .ok (.aload_n 0, 1) := by decide +kernel
theorem dX8_count_92 : decode cX8_count 92 = .ok (.getfield 7, 3) := by decide +kernel
theorem dX8_count_95 : decode cX8_count 95 = .ok (.iconst (-1), 1) := by decide +kernel
theorem dX8_count_96 : decode cX8_count 96 = .ok (.invokestatic 148, 3) := by decide +kernel
theorem dX8_count_99 : decode cX8_count 99 = .ok (.ifCond .eq 7, 3) := by decide +kernel
theorem dX8_count_102 : decode cX8_count 102 = .ok (.iconst 1, 1) := by decide +kernel
theorem dX8_count_103 : decode cX8_count 103 = .ok (.goto 35, 3) := by decide +kernel
theorem dX8_count_106 : decode cX8_count 106 = .ok (.iconst 0, 1) := by decide +kernel
theorem dX8_count_107 : decode cX8_count 107 = .ok (.goto 31, 3) := by decide +kernel
theorem dX8_count_110 : decode cX8_count 110 = .ok (.iload_n 1, 1) := by decide +kernel
theorem dX8_count_111 : decode cX8_count 111 = .ok (.bipush 6, 2) := by decide +kernel
theorem dX8_count_113 : decode cX8_count 113 = .ok (.if_icmp .ne 21, 3) := by decide +kernel
theorem dX8_count_116 : decode cX8_count 116 = .ok (.aload_n 0, 1) := by decide +kernel
theorem dX8_count_117 : decode cX8_count 117 = .ok (.getfield 7, 3) := by decide +kernel
theorem dX8_count_120 : decode cX8_count 120 = .ok (.invokestatic 151, 3) := by decide +kernel
theorem dX8_count_123 : decode cX8_count 123 = .ok (.ifCond .eq 7, 3) := by decide +kernel
theorem dX8_count_126 : decode cX8_count 126 = .ok (.iconst 1, 1) := by decide +kernel
theorem dX8_count_127 : decode cX8_count 127 = .ok (.goto 11, 3) := by decide +kernel
theorem dX8_count_130 : decode cX8_count 130 = .ok (.iconst 0, 1) := by decide +kernel
theorem dX8_count_131 : decode cX8_count 131 = .ok (.goto 7, 3) := by decide +kernel
theorem dX8_count_134 : decode cX8_count 134 = .ok (.aload_n 0, 1) := by decide +kernel
theorem dX8_count_135 : decode cX8_count 135 = .ok (.invokevirtual 155, 3) := by decide +kernel
theorem dX8_count_138 : decode cX8_count 138 = .ok (.ireturn, 1) := by decide +kernel
theorem dX8_sentBy_0 : decode cX8_sentBy 0 = .ok (.iload_n 0, 1) := by decide +kernel
theorem dX8_sentBy_1 : decode cX8_sentBy 1 = .ok (.iconst 1, 1) := by decide +kernel
theorem dX8_sentBy_2 : decode cX8_sentBy 2 = .ok (.if_icmp .eq 8, 3) := by decide +kernel
theorem dX8_sentBy_5 : decode cX8_sentBy 5 = .ok (.iload_n 0, 1) := by decide +kernel
theorem dX8_sentBy_6 : decode cX8_sentBy 6 = .ok (.iconst 4, 1) := by decide +kernel
theorem dX8_sentBy_7 : decode cX8_sentBy 7 = .ok (.if_icmp .ne 46, 3) := by decide +kernel
theorem dX8_sentBy_10 : decode cX8_sentBy 10 = .ok (.iload_n 0, 1) := by decide +kernel
theorem dX8_sentBy_11 : decode cX8_sentBy 11 = .ok (.iconst 1, 1) := by decide +kernel
theorem dX8_sentBy_12 : decode cX8_sentBy 12 = .ok (.if_icmp .ne 16, 3) := by decide +kernel
theorem dX8_sentBy_15 : decode cX8_sentBy 15 = .ok (.iload_n 2, 1) := by decide +kernel
theorem dX8_sentBy_16 : decode cX8_sentBy 16 = .ok (.iload_n 1, 1) := by decide +kernel
theorem dX8_sentBy_17 : decode cX8_sentBy 17 = .ok (.if_icmp .le 7, 3) := by decide +kernel
theorem dX8_sentBy_20 : decode cX8_sentBy 20 = .ok (.iconst 1, 1) := by decide +kernel
theorem dX8_sentBy_21 : decode cX8_sentBy 21 = .ok (.goto 17, 3) := by decide +kernel
theorem dX8_sentBy_24 : decode cX8_sentBy 24 = .ok (.iconst 0, 1) := by decide +kernel
theorem dX8_sentBy_25 : decode cX8_sentBy 25 = .ok (.goto 13, 3) := by decide +kernel
theorem dX8_sentBy_28 : decode cX8_sentBy 28 = .ok (.iload_n 2, 1) := by decide +kernel
theorem dX8_sentBy_29 : decode cX8_sentBy 29 = .ok (.iload_n 1, 1) := by decide +kernel
theorem dX8_sentBy_30 : decode cX8_sentBy 30 = .ok (.if_icmp .ge 7, 3) := by decide +kernel
theorem dX8_sentBy_33 : decode cX8_sentBy 33 = .ok (.iconst 1, 1) := by decide +kernel
theorem dX8_sentBy_34 : decode cX8_sentBy 34 = .ok (.goto 4, 3) := by decide +kernel
theorem dX8_sentBy_37 : decode cX8_sentBy 37 = .ok (.iconst 0, 1) := by decide +kernel
theorem dX8_sentBy_38 : decode cX8_sentBy 38 = .ok (.istore 5, 2) := by decide +kernel
theorem dX8_sentBy_40 : decode cX8_sentBy 40 = .ok (.iload 5, 2) := by decide +kernel
theorem dX8_sentBy_42 : decode cX8_sentBy 42 = .ok (.ifCond .eq 9, 3) := by decide +kernel
theorem dX8_sentBy_45 : decode cX8_sentBy 45 = .ok (.iconst 1, 1) := by decide +kernel
theorem dX8_sentBy_46 : decode cX8_sentBy 46 = .ok (.iload_n 3, 1) := by decide +kernel
theorem dX8_sentBy_47 : decode cX8_sentBy 47 = .ok (.isub, 1) := by decide +kernel
theorem dX8_sentBy_48 : decode cX8_sentBy 48 = .ok (.goto 4, 3) := by decide +kernel
theorem dX8_sentBy_51 : decode cX8_sentBy 51 = .ok (.iload_n 3, 1) := by decide +kernel
theorem dX8_sentBy_52 : decode cX8_sentBy 52 = .ok (.ireturn, 1) := by decide +kernel
theorem dX8_sentBy_53 : decode cX8_sentBy 53 = .ok (.iload_n 0, 1) := by decide +kernel
theorem dX8_sentBy_54 : decode cX8_sentBy 54 = .ok (.iconst 5, 1) := by decide +kernel
theorem dX8_sentBy_55 : decode cX8_sentBy 55 = .ok (.if_icmp .ne 7, 3) := by decide +kernel
theorem dX8_sentBy_58 : decode cX8_sentBy 58 = .ok (.iconst (-1), 1) := by decide +kernel
theorem dX8_sentBy_59 : decode cX8_sentBy 59 = .ok (.goto 20, 3) := by decide +kernel
theorem dX8_sentBy_62 : decode cX8_sentBy 62 = .ok (.iload_n 0, 1) := by decide +kernel
theorem dX8_sentBy_63 : decode cX8_sentBy 63 = .ok (.iconst 2, 1) := by decide +kernel
theorem dX8_sentBy_64 : decode cX8_sentBy 64 = .ok (.if_icmp .ne 14, 3) := by decide +kernel
theorem dX8_sentBy_67 : decode cX8_sentBy 67 = .ok (.iload 4, 2) := by decide +kernel
theorem dX8_sentBy_69 : decode cX8_sentBy 69 = .ok (.iconst 2, 1) := by decide +kernel
theorem dX8_sentBy_70 : decode cX8_sentBy 70 = .ok (.if_icmp .ge 8, 3) := by decide +kernel
theorem dX8_sentBy_73 : decode cX8_sentBy 73 = .ok (.iload 4, 2) := by decide +kernel
theorem dX8_sentBy_75 : decode cX8_sentBy 75 = .ok (.goto 4, 3) := by decide +kernel
theorem dX8_sentBy_78 : decode cX8_sentBy 78 = .ok (.iload_n 3, 1) := by decide +kernel
theorem dX8_sentBy_79 : decode cX8_sentBy 79 = .ok (.ireturn, 1) := by decide +kernel
theorem dX8_drawn_0 : decode cX8_drawn 0 = .ok (.aload_n 1, 1) := by decide +kernel
theorem dX8_drawn_1 : decode cX8_drawn 1 = .ok (.iconst 5, 1) := by decide +kernel
theorem dX8_drawn_2 : decode cX8_drawn 2 = .ok (.aload_n 1, 1) := by decide +kernel
theorem dX8_drawn_3 : decode cX8_drawn 3 = .ok (.iconst 5, 1) := by decide +kernel
theorem dX8_drawn_4 : decode cX8_drawn 4 = .ok (.iaload, 1) := by decide +kernel
theorem dX8_drawn_5 : decode cX8_drawn 5 = .ok (.ldc 158, 2) := by decide +kernel
theorem dX8_drawn_7 : decode cX8_drawn 7 = .ok (.imul, 1) := by decide +kernel
theorem dX8_drawn_8 : decode cX8_drawn 8 = .ok (.sipush 12345, 3) := by decide +kernel
theorem dX8_drawn_11 : decode cX8_drawn 11 = .ok (.iadd, 1) := by decide +kernel
theorem dX8_drawn_12 : decode cX8_drawn 12 = .ok (.ldc 159, 2) := by decide +kernel
theorem dX8_drawn_14 : decode cX8_drawn 14 = .ok (.iand, 1) := by decide +kernel
theorem dX8_drawn_15 : decode cX8_drawn 15 = .ok (.iastore, 1) := by decide +kernel
theorem dX8_drawn_16 : decode cX8_drawn 16 = .ok (.aload_n 1, 1) := by decide +kernel
theorem dX8_drawn_17 : decode cX8_drawn 17 = .ok (.iconst 5, 1) := by decide +kernel
theorem dX8_drawn_18 : decode cX8_drawn 18 = .ok (.iaload, 1) := by decide +kernel
theorem dX8_drawn_19 : decode cX8_drawn 19 = .ok (.ldc 160, 2) := by decide +kernel
theorem dX8_drawn_21 : decode cX8_drawn 21 = .ok (.idiv, 1) := by decide +kernel
theorem dX8_drawn_22 : decode cX8_drawn 22 = .ok (.bipush 9, 2) := by decide +kernel
theorem dX8_drawn_24 : decode cX8_drawn 24 = .ok (.irem, 1) := by decide +kernel
theorem dX8_drawn_25 : decode cX8_drawn 25 = .ok (.iconst 1, 1) := by decide +kernel
theorem dX8_drawn_26 : decode cX8_drawn 26 = .ok (.iadd, 1) := by decide +kernel
theorem dX8_drawn_27 : decode cX8_drawn 27 = .ok (.ireturn, 1) := by decide +kernel
theorem dX8_says_0 : decode cX8_says 0 = .ok (.bipush 6, 2) := by decide +kernel
theorem dX8_says_2 : decode cX8_says 2 = .ok (.bipush 6, 2) := by decide +kernel
theorem dX8_says_4 : decode cX8_says 4 = .ok (.iload_n 2, 1) := by decide +kernel
theorem dX8_says_5 : decode cX8_says 5 = .ok (.imul, 1) := by decide +kernel
theorem dX8_says_6 : decode cX8_says 6 = .ok (.iadd, 1) := by decide +kernel
theorem dX8_says_7 : decode cX8_says 7 = .ok (.istore 4, 2) := by decide +kernel
theorem dX8_says_9 : decode cX8_says 9 = .ok (.aload_n 1, 1) := by decide +kernel
theorem dX8_says_10 : decode cX8_says 10 = .ok (.iload 4, 2) := by decide +kernel
theorem dX8_says_12 : decode cX8_says 12 = .ok (.iconst 3, 1) := by decide +kernel
theorem dX8_says_13 : decode cX8_says 13 = .ok (.iadd, 1) := by decide +kernel
theorem dX8_says_14 : decode cX8_says 14 = .ok (.iaload, 1) := by decide +kernel
theorem dX8_says_15 : decode cX8_says 15 = .ok (.istore 5, 2) := by decide +kernel
theorem dX8_says_17 : decode cX8_says 17 = .ok (.iload 5, 2) := by decide +kernel
theorem dX8_says_19 : decode cX8_says 19 = .ok (.iload_n 3, 1) := by decide +kernel
theorem dX8_says_20 : decode cX8_says 20 = .ok (.if_icmp .ne 4, 3) := by decide +kernel
theorem dX8_says_23 : decode cX8_says 23 = .ok (.return_, 1) := by decide +kernel
theorem dX8_says_24 : decode cX8_says 24 = .ok (.aload_n 1, 1) := by decide +kernel
theorem dX8_says_25 : decode cX8_says 25 = .ok (.iload 4, 2) := by decide +kernel
theorem dX8_says_27 : decode cX8_says 27 = .ok (.iconst 3, 1) := by decide +kernel
theorem dX8_says_28 : decode cX8_says 28 = .ok (.iadd, 1) := by decide +kernel
theorem dX8_says_29 : decode cX8_says 29 = .ok (.iload_n 3, 1) := by decide +kernel
theorem dX8_says_30 : decode cX8_says 30 = .ok (.iastore, 1) := by decide +kernel
theorem dX8_says_31 : decode cX8_says 31 = .ok (.iconst 0, 1) := by decide +kernel
theorem dX8_says_32 : decode cX8_says 32 = .ok (.istore 6, 2) := by decide +kernel
theorem dX8_says_34 : decode cX8_says 34 = .ok (.iload 6, 2) := by decide +kernel
theorem dX8_says_36 : decode cX8_says 36 = .ok (.aload_n 1, 1) := by decide +kernel
theorem dX8_says_37 : decode cX8_says 37 = .ok (.iconst 0, 1) := by decide +kernel
theorem dX8_says_38 : decode cX8_says 38 = .ok (.iaload, 1) := by decide +kernel
theorem dX8_says_39 : decode cX8_says 39 = .ok (.if_icmp .ge 127, 3) := by decide +kernel
theorem dX8_says_42 : decode cX8_says 42 = .ok (.iload 6, 2) := by decide +kernel
theorem dX8_says_44 : decode cX8_says 44 = .ok (.iload_n 2, 1) := by decide +kernel
theorem dX8_says_45 : decode cX8_says 45 = .ok (.if_icmp .ne 7, 3) := by decide +kernel
theorem dX8_says_48 : decode cX8_says 48 = .ok (.iconst (-1), 1) := by decide +kernel
theorem dX8_says_49 : decode cX8_says 49 = .ok (.goto 16, 3) := by decide +kernel
theorem dX8_says_52 : decode cX8_says 52 = .ok (.aload_n 1, 1) := by decide +kernel
theorem dX8_says_53 : decode cX8_says 53 = .ok (.iload 4, 2) := by decide +kernel
theorem dX8_says_55 : decode cX8_says 55 = .ok (.iaload, 1) := by decide +kernel
theorem dX8_says_56 : decode cX8_says 56 = .ok (.iload_n 2, 1) := by decide +kernel
theorem dX8_says_57 : decode cX8_says 57 = .ok (.iload 6, 2) := by decide +kernel
theorem dX8_says_59 : decode cX8_says 59 = .ok (.iload_n 3, 1) := by decide +kernel
theorem dX8_says_60 : decode cX8_says 60 = .ok (.iload 5, 2) := by decide +kernel
theorem dX8_says_62 : decode cX8_says 62 = .ok (.invokestatic 161, 3) := by decide +kernel
theorem dX8_says_65 : decode cX8_says 65 = .ok (.istore 7, 2) := by decide +kernel
theorem dX8_says_67 : decode cX8_says 67 = .ok (.iload 7, 2) := by decide +kernel
theorem dX8_says_69 : decode cX8_says 69 = .ok (.ifCond .lt 91, 3) := by decide +kernel
theorem dX8_says_72 : decode cX8_says 72 = .ok (.aload_n 0, 1) := by decide +kernel
theorem dX8_says_73 : decode cX8_says 73 = .ok (.getfield 165, 3) := by decide +kernel
theorem dX8_says_76 : decode cX8_says 76 = .ok (.ifCond .eq 11, 3) := by decide +kernel
theorem dX8_says_79 : decode cX8_says 79 = .ok (.aload_n 0, 1) := by decide +kernel
theorem dX8_says_80 : decode cX8_says 80 = .ok (.aload_n 1, 1) := by decide +kernel
theorem dX8_says_81 : decode cX8_says 81 = .ok (.invokevirtual 169, 3) := by decide +kernel
theorem dX8_says_84 : decode cX8_says 84 = .ok (.goto 15, 3) := by decide +kernel
theorem dX8_says_87 : decode cX8_says 87 = .ok (.aload_n 1, 1) := by decide +kernel
theorem dX8_says_88 : decode cX8_says 88 = .ok (.bipush 60, 2) := by decide +kernel
theorem dX8_says_90 : decode cX8_says 90 = .ok (.bipush 9, 2) := by decide +kernel
theorem dX8_says_92 : decode cX8_says 92 = .ok (.iload_n 2, 1) := by decide +kernel
theorem dX8_says_93 : decode cX8_says 93 = .ok (.imul, 1) := by decide +kernel
theorem dX8_says_94 : decode cX8_says 94 = .ok (.iadd, 1) := by decide +kernel
theorem dX8_says_95 : decode cX8_says 95 = .ok (.iload 6, 2) := by decide +kernel
theorem dX8_says_97 : decode cX8_says 97 = .ok (.iadd, 1) := by decide +kernel
theorem dX8_says_98 : decode cX8_says 98 = .ok (.iaload, 1) := by decide +kernel
theorem dX8_says_99 : decode cX8_says 99 = .ok (.istore 8, 2) := by decide +kernel
theorem dX8_says_101 : decode cX8_says 101 = .ok (.aload_n 1, 1) := by decide +kernel
theorem dX8_says_102 : decode cX8_says 102 = .ok (.iload 4, 2) := by decide +kernel
theorem dX8_says_104 : decode cX8_says 104 = .ok (.iaload, 1) := by decide +kernel
theorem dX8_says_105 : decode cX8_says 105 = .ok (.iconst 3, 1) := by decide +kernel
theorem dX8_says_106 : decode cX8_says 106 = .ok (.if_icmp .ne 10, 3) := by decide +kernel
theorem dX8_says_109 : decode cX8_says 109 = .ok (.iconst 2, 1) := by decide +kernel
theorem dX8_says_110 : decode cX8_says 110 = .ok (.iload 8, 2) := by decide +kernel
theorem dX8_says_112 : decode cX8_says 112 = .ok (.imul, 1) := by decide +kernel
theorem dX8_says_113 : decode cX8_says 113 = .ok (.goto 5, 3) := by decide +kernel
theorem dX8_says_116 : decode cX8_says 116 = .ok (.iload 8, 2) := by decide +kernel
theorem dX8_says_118 : decode cX8_says 118 = .ok (.istore 8, 2) := by decide +kernel
theorem dX8_says_120 : decode cX8_says 120 = .ok (.aload_n 1, 1) := by decide +kernel
theorem dX8_says_121 : decode cX8_says 121 = .ok (.sipush 222, 3) := by decide +kernel
theorem dX8_says_124 : decode cX8_says 124 = .ok (.bipush 19, 2) := by decide +kernel
theorem dX8_says_126 : decode cX8_says 126 = .ok (.bipush 9, 2) := by decide +kernel
theorem dX8_says_128 : decode cX8_says 128 = .ok (.iload_n 2, 1) := by decide +kernel
theorem dX8_says_129 : decode cX8_says 129 = .ok (.imul, 1) := by decide +kernel
theorem dX8_says_130 : decode cX8_says 130 = .ok (.iload 6, 2) := by decide +kernel
theorem dX8_says_132 : decode cX8_says 132 = .ok (.iadd, 1) := by decide +kernel
theorem dX8_says_133 : decode cX8_says 133 = .ok (.imul, 1) := by decide +kernel
theorem dX8_says_134 : decode cX8_says 134 = .ok (.iadd, 1) := by decide +kernel
theorem dX8_says_135 : decode cX8_says 135 = .ok (.aload_n 1, 1) := by decide +kernel
theorem dX8_says_136 : decode cX8_says 136 = .ok (.iconst 1, 1) := by decide +kernel
theorem dX8_says_137 : decode cX8_says 137 = .ok (.iaload, 1) := by decide +kernel
theorem dX8_says_138 : decode cX8_says 138 = .ok (.iload 8, 2) := by decide +kernel
theorem dX8_says_140 : decode cX8_says 140 = .ok (.iadd, 1) := by decide +kernel
theorem dX8_says_141 : decode cX8_says 141 = .ok (.bipush 19, 2) := by decide +kernel
theorem dX8_says_143 : decode cX8_says 143 = .ok (.irem, 1) := by decide +kernel
theorem dX8_says_144 : decode cX8_says 144 = .ok (.iadd, 1) := by decide +kernel
theorem dX8_says_145 : decode cX8_says 145 = .ok (.iload 7, 2) := by decide +kernel
theorem dX8_says_147 : decode cX8_says 147 = .ok (.iconst 1, 1) := by decide +kernel
theorem dX8_says_148 : decode cX8_says 148 = .ok (.iadd, 1) := by decide +kernel
theorem dX8_says_149 : decode cX8_says 149 = .ok (.iastore, 1) := by decide +kernel
theorem dX8_says_150 : decode cX8_says 150 = .ok (.aload_n 0, 1) := by decide +kernel
theorem dX8_says_151 : decode cX8_says 151 = .ok (.dup, 1) := by decide +kernel
theorem dX8_says_152 : decode cX8_says 152 = .ok (.getfield 173, 3) := by decide +kernel
theorem dX8_says_155 : decode cX8_says 155 = .ok (.iconst 1, 1) := by decide +kernel
theorem dX8_says_156 : decode cX8_says 156 = .ok (.iadd, 1) := by decide +kernel
theorem dX8_says_157 : decode cX8_says 157 = .ok (.putfield 173, 3) := by decide +kernel
theorem dX8_says_160 : decode cX8_says 160 = .ok (.iinc 6 1, 3) := by decide +kernel
theorem dX8_says_163 : decode cX8_says 163 = .ok (.goto (-129), 3) := by decide +kernel
theorem dX8_says_166 : decode cX8_says 166 = .ok (.return_, 1) := by decide +kernel
theorem dX8_acts_0 : decode cX8_acts 0 = .ok (.bipush 6, 2) := by decide +kernel
theorem dX8_acts_2 : decode cX8_acts 2 = .ok (.bipush 6, 2) := by decide +kernel
theorem dX8_acts_4 : decode cX8_acts 4 = .ok (.iload_n 2, 1) := by decide +kernel
theorem dX8_acts_5 : decode cX8_acts 5 = .ok (.imul, 1) := by decide +kernel
theorem dX8_acts_6 : decode cX8_acts 6 = .ok (.iadd, 1) := by decide +kernel
theorem dX8_acts_7 : decode cX8_acts 7 = .ok (.istore_n 3, 1) := by decide +kernel
theorem dX8_acts_8 : decode cX8_acts 8 = .ok (.iconst 0, 1) := by decide +kernel
theorem dX8_acts_9 : decode cX8_acts 9 = .ok (.istore 4, 2) := by decide +kernel
theorem dX8_acts_11 : decode cX8_acts 11 = .ok (.iload 4, 2) := by decide +kernel
theorem dX8_acts_13 : decode cX8_acts 13 = .ok (.aload_n 1, 1) := by decide +kernel
theorem dX8_acts_14 : decode cX8_acts 14 = .ok (.iconst 3, 1) := by decide +kernel
theorem dX8_acts_15 : decode cX8_acts 15 = .ok (.iaload, 1) := by decide +kernel
theorem dX8_acts_16 : decode cX8_acts 16 = .ok (.if_icmp .ge 119, 3) := by decide +kernel
theorem dX8_acts_19 : decode cX8_acts 19 = .ok (.sipush 1761, 3) := by decide +kernel
theorem dX8_acts_22 : decode cX8_acts 22 = .ok (.iconst 4, 1) := by decide +kernel
theorem dX8_acts_23 : decode cX8_acts 23 = .ok (.iload 4, 2) := by decide +kernel
theorem dX8_acts_25 : decode cX8_acts 25 = .ok (.imul, 1) := by decide +kernel
theorem dX8_acts_26 : decode cX8_acts 26 = .ok (.iadd, 1) := by decide +kernel
theorem dX8_acts_27 : decode cX8_acts 27 = .ok (.istore 5, 2) := by decide +kernel
theorem dX8_acts_29 : decode cX8_acts 29 = .ok (.aload_n 1, 1) := by decide +kernel
theorem dX8_acts_30 : decode cX8_acts 30 = .ok (.iload_n 2, 1) := by decide +kernel
theorem dX8_acts_31 : decode cX8_acts 31 = .ok (.aload_n 1, 1) := by decide +kernel
theorem dX8_acts_32 : decode cX8_acts 32 = .ok (.iload 5, 2) := by decide +kernel
theorem dX8_acts_34 : decode cX8_acts 34 = .ok (.iaload, 1) := by decide +kernel
theorem dX8_acts_35 : decode cX8_acts 35 = .ok (.invokestatic 90, 3) := by decide +kernel
theorem dX8_acts_38 : decode cX8_acts 38 = .ok (.aload_n 1, 1) := by decide +kernel
theorem dX8_acts_39 : decode cX8_acts 39 = .ok (.iload 5, 2) := by decide +kernel
theorem dX8_acts_41 : decode cX8_acts 41 = .ok (.iconst 1, 1) := by decide +kernel
theorem dX8_acts_42 : decode cX8_acts 42 = .ok (.iadd, 1) := by decide +kernel
theorem dX8_acts_43 : decode cX8_acts 43 = .ok (.iaload, 1) := by decide +kernel
theorem dX8_acts_44 : decode cX8_acts 44 = .ok (.if_icmp .lt 85, 3) := by decide +kernel
theorem dX8_acts_47 : decode cX8_acts 47 = .ok (.aload_n 1, 1) := by decide +kernel
theorem dX8_acts_48 : decode cX8_acts 48 = .ok (.iload 5, 2) := by decide +kernel
theorem dX8_acts_50 : decode cX8_acts 50 = .ok (.iconst 3, 1) := by decide +kernel
theorem dX8_acts_51 : decode cX8_acts 51 = .ok (.iadd, 1) := by decide +kernel
theorem dX8_acts_52 : decode cX8_acts 52 = .ok (.iaload, 1) := by decide +kernel
theorem dX8_acts_53 : decode cX8_acts 53 = .ok (.iconst 2, 1) := by decide +kernel
theorem dX8_acts_54 : decode cX8_acts 54 = .ok (.if_icmp .ne 11, 3) := by decide +kernel
theorem dX8_acts_57 : decode cX8_acts 57 = .ok (.aload_n 1, 1) := by decide +kernel
theorem dX8_acts_58 : decode cX8_acts 58 = .ok (.iload_n 3, 1) := by decide +kernel
theorem dX8_acts_59 : decode cX8_acts 59 = .ok (.iconst 1, 1) := by decide +kernel
theorem dX8_acts_60 : decode cX8_acts 60 = .ok (.iadd, 1) := by decide +kernel
theorem dX8_acts_61 : decode cX8_acts 61 = .ok (.iaload, 1) := by decide +kernel
theorem dX8_acts_62 : decode cX8_acts 62 = .ok (.goto 9, 3) := by decide +kernel
theorem dX8_acts_65 : decode cX8_acts 65 = .ok (.aload_n 1, 1) := by decide +kernel
theorem dX8_acts_66 : decode cX8_acts 66 = .ok (.iload 5, 2) := by decide +kernel
theorem dX8_acts_68 : decode cX8_acts 68 = .ok (.iconst 3, 1) := by decide +kernel
theorem dX8_acts_69 : decode cX8_acts 69 = .ok (.iadd, 1) := by decide +kernel
theorem dX8_acts_70 : decode cX8_acts 70 = .ok (.iaload, 1) := by decide +kernel
theorem dX8_acts_71 : decode cX8_acts 71 = .ok (.istore 6, 2) := by decide +kernel
theorem dX8_acts_73 : decode cX8_acts 73 = .ok (.aload_n 1, 1) := by decide +kernel
theorem dX8_acts_74 : decode cX8_acts 74 = .ok (.iload 5, 2) := by decide +kernel
theorem dX8_acts_76 : decode cX8_acts 76 = .ok (.iconst 2, 1) := by decide +kernel
theorem dX8_acts_77 : decode cX8_acts 77 = .ok (.iadd, 1) := by decide +kernel
theorem dX8_acts_78 : decode cX8_acts 78 = .ok (.iaload, 1) := by decide +kernel
theorem dX8_acts_79 : decode cX8_acts 79 = .ok (.ifCond .ne 14, 3) := by decide +kernel
theorem dX8_acts_82 : decode cX8_acts 82 = .ok (.aload_n 0, 1) := by decide +kernel
theorem dX8_acts_83 : decode cX8_acts 83 = .ok (.aload_n 1, 1) := by decide +kernel
theorem dX8_acts_84 : decode cX8_acts 84 = .ok (.iload_n 2, 1) := by decide +kernel
theorem dX8_acts_85 : decode cX8_acts 85 = .ok (.iload 6, 2) := by decide +kernel
theorem dX8_acts_87 : decode cX8_acts 87 = .ok (.invokevirtual 176, 3) := by decide +kernel
theorem dX8_acts_90 : decode cX8_acts 90 = .ok (.goto 39, 3) := by decide +kernel
theorem dX8_acts_93 : decode cX8_acts 93 = .ok (.aload_n 1, 1) := by decide +kernel
theorem dX8_acts_94 : decode cX8_acts 94 = .ok (.iload 5, 2) := by decide +kernel
theorem dX8_acts_96 : decode cX8_acts 96 = .ok (.iconst 2, 1) := by decide +kernel
theorem dX8_acts_97 : decode cX8_acts 97 = .ok (.iadd, 1) := by decide +kernel
theorem dX8_acts_98 : decode cX8_acts 98 = .ok (.iaload, 1) := by decide +kernel
theorem dX8_acts_99 : decode cX8_acts 99 = .ok (.iconst 1, 1) := by decide +kernel
theorem dX8_acts_100 : decode cX8_acts 100 = .ok (.if_icmp .ne 13, 3) := by decide +kernel
theorem dX8_acts_103 : decode cX8_acts 103 = .ok (.aload_n 1, 1) := by decide +kernel
theorem dX8_acts_104 : decode cX8_acts 104 = .ok (.iload_n 3, 1) := by decide +kernel
theorem dX8_acts_105 : decode cX8_acts 105 = .ok (.iconst 1, 1) := by decide +kernel
theorem dX8_acts_106 : decode cX8_acts 106 = .ok (.iadd, 1) := by decide +kernel
theorem dX8_acts_107 : decode cX8_acts 107 = .ok (.iload 6, 2) := by decide +kernel
theorem dX8_acts_109 : decode cX8_acts 109 = .ok (.iastore, 1) := by decide +kernel
theorem dX8_acts_110 : decode cX8_acts 110 = .ok (.goto 19, 3) := by decide +kernel
theorem dX8_acts_113 : decode cX8_acts 113 = .ok (.aload_n 1, 1) := by decide +kernel
theorem dX8_acts_114 : decode cX8_acts 114 = .ok (.iload_n 3, 1) := by decide +kernel
theorem dX8_acts_115 : decode cX8_acts 115 = .ok (.iconst 2, 1) := by decide +kernel
theorem dX8_acts_116 : decode cX8_acts 116 = .ok (.iadd, 1) := by decide +kernel
theorem dX8_acts_117 : decode cX8_acts 117 = .ok (.iaload, 1) := by decide +kernel
theorem dX8_acts_118 : decode cX8_acts 118 = .ok (.iconst 2, 1) := by decide +kernel
theorem dX8_acts_119 : decode cX8_acts 119 = .ok (.if_icmp .ne 10, 3) := by decide +kernel
theorem dX8_acts_122 : decode cX8_acts 122 = .ok (.aload_n 1, 1) := by decide +kernel
theorem dX8_acts_123 : decode cX8_acts 123 = .ok (.iload_n 3, 1) := by decide +kernel
theorem dX8_acts_124 : decode cX8_acts 124 = .ok (.iconst 2, 1) := by decide +kernel
theorem dX8_acts_125 : decode cX8_acts 125 = .ok (.iadd, 1) := by decide +kernel
theorem dX8_acts_126 : decode cX8_acts 126 = .ok (.iload 6, 2) := by decide +kernel
theorem dX8_acts_128 : decode cX8_acts 128 = .ok (.iastore, 1) := by decide +kernel
theorem dX8_acts_129 : decode cX8_acts 129 = .ok (.iinc 4 1, 3) := by decide +kernel
theorem dX8_acts_132 : decode cX8_acts 132 = .ok (.goto (-121), 3) := by decide +kernel
theorem dX8_acts_135 : decode cX8_acts 135 = .ok (.return_, 1) := by decide +kernel
theorem dX8_isOut_0 : decode cX8_isOut 0 = .ok (.iload_n 2, 1) := by decide +kernel
theorem dX8_isOut_1 : decode cX8_isOut 1 = .ok (.aload_n 0, 1) := by decide +kernel
theorem dX8_isOut_2 : decode cX8_isOut 2 = .ok (.getfield 38, 3) := by decide +kernel
theorem dX8_isOut_5 : decode cX8_isOut 5 = .ok (.if_icmp .eq 11, 3) := by decide +kernel
theorem dX8_isOut_8 : decode cX8_isOut 8 = .ok (.aload_n 1, 1) := by decide +kernel
theorem dX8_isOut_9 : decode cX8_isOut 9 = .ok (.iload_n 2, 1) := by decide +kernel
theorem dX8_isOut_10 : decode cX8_isOut 10 = .ok (.invokestatic 73, 3) := by decide +kernel
theorem dX8_isOut_13 : decode cX8_isOut 13 = .ok (.ifCond .eq 7, 3) := by decide +kernel
theorem dX8_isOut_16 : decode cX8_isOut 16 = .ok (.iconst 1, 1) := by decide +kernel
theorem dX8_isOut_17 : decode cX8_isOut 17 = .ok (.goto 4, 3) := by decide +kernel
theorem dX8_isOut_20 : decode cX8_isOut 20 = .ok (.iconst 0, 1) := by decide +kernel
theorem dX8_isOut_21 : decode cX8_isOut 21 = .ok (.ireturn, 1) := by decide +kernel
theorem dX8_goes_0 : decode cX8_goes 0 = .ok (.aload_n 1, 1) := by decide +kernel
theorem dX8_goes_1 : decode cX8_goes 1 = .ok (.iconst 1, 1) := by decide +kernel
theorem dX8_goes_2 : decode cX8_goes 2 = .ok (.iaload, 1) := by decide +kernel
theorem dX8_goes_3 : decode cX8_goes 3 = .ok (.bipush 19, 2) := by decide +kernel
theorem dX8_goes_5 : decode cX8_goes 5 = .ok (.irem, 1) := by decide +kernel
theorem dX8_goes_6 : decode cX8_goes 6 = .ok (.istore_n 2, 1) := by decide +kernel
theorem dX8_goes_7 : decode cX8_goes 7 = .ok (.iconst 0, 1) := by decide +kernel
theorem dX8_goes_8 : decode cX8_goes 8 = .ok (.istore_n 3, 1) := by decide +kernel
theorem dX8_goes_9 : decode cX8_goes 9 = .ok (.iload_n 3, 1) := by decide +kernel
theorem dX8_goes_10 : decode cX8_goes 10 = .ok (.aload_n 1, 1) := by decide +kernel
theorem dX8_goes_11 : decode cX8_goes 11 = .ok (.iconst 0, 1) := by decide +kernel
theorem dX8_goes_12 : decode cX8_goes 12 = .ok (.iaload, 1) := by decide +kernel
theorem dX8_goes_13 : decode cX8_goes 13 = .ok (.if_icmp .ge 85, 3) := by decide +kernel
theorem dX8_goes_16 : decode cX8_goes 16 = .ok (.iconst 0, 1) := by decide +kernel
theorem dX8_goes_17 : decode cX8_goes 17 = .ok (.istore 4, 2) := by decide +kernel
theorem dX8_goes_19 : decode cX8_goes 19 = .ok (.iload 4, 2) := by decide +kernel
theorem dX8_goes_21 : decode cX8_goes 21 = .ok (.aload_n 1, 1) := by decide +kernel
theorem dX8_goes_22 : decode cX8_goes 22 = .ok (.iconst 0, 1) := by decide +kernel
theorem dX8_goes_23 : decode cX8_goes 23 = .ok (.iaload, 1) := by decide +kernel
theorem dX8_goes_24 : decode cX8_goes 24 = .ok (.if_icmp .ge 68, 3) := by decide +kernel
theorem dX8_goes_27 : decode cX8_goes 27 = .ok (.sipush 222, 3) := by decide +kernel
theorem dX8_goes_30 : decode cX8_goes 30 = .ok (.bipush 19, 2) := by decide +kernel
theorem dX8_goes_32 : decode cX8_goes 32 = .ok (.bipush 9, 2) := by decide +kernel
theorem dX8_goes_34 : decode cX8_goes 34 = .ok (.iload_n 3, 1) := by decide +kernel
theorem dX8_goes_35 : decode cX8_goes 35 = .ok (.imul, 1) := by decide +kernel
theorem dX8_goes_36 : decode cX8_goes 36 = .ok (.iload 4, 2) := by decide +kernel
theorem dX8_goes_38 : decode cX8_goes 38 = .ok (.iadd, 1) := by decide +kernel
theorem dX8_goes_39 : decode cX8_goes 39 = .ok (.imul, 1) := by decide +kernel
theorem dX8_goes_40 : decode cX8_goes 40 = .ok (.iadd, 1) := by decide +kernel
theorem dX8_goes_41 : decode cX8_goes 41 = .ok (.iload_n 2, 1) := by decide +kernel
theorem dX8_goes_42 : decode cX8_goes 42 = .ok (.iadd, 1) := by decide +kernel
theorem dX8_goes_43 : decode cX8_goes 43 = .ok (.istore 5, 2) := by decide +kernel
theorem dX8_goes_45 : decode cX8_goes 45 = .ok (.aload_n 1, 1) := by decide +kernel
theorem dX8_goes_46 : decode cX8_goes 46 = .ok (.iload 5, 2) := by decide +kernel
theorem dX8_goes_48 : decode cX8_goes 48 = .ok (.iaload, 1) := by decide +kernel
theorem dX8_goes_49 : decode cX8_goes 49 = .ok (.ifCond .le 32, 3) := by decide +kernel
theorem dX8_goes_52 : decode cX8_goes 52 = .ok (.aload_n 0, 1) := by decide +kernel
theorem dX8_goes_53 : decode cX8_goes 53 = .ok (.aload_n 1, 1) := by decide +kernel
theorem dX8_goes_54 : decode cX8_goes 54 = .ok (.iload 4, 2) := by decide +kernel
theorem dX8_goes_56 : decode cX8_goes 56 = .ok (.invokevirtual 180, 3) := by decide +kernel
theorem dX8_goes_59 : decode cX8_goes 59 = .ok (.ifCond .ne 22, 3) := by decide +kernel
theorem dX8_goes_62 : decode cX8_goes 62 = .ok (.aload_n 1, 1) := by decide +kernel
theorem dX8_goes_63 : decode cX8_goes 63 = .ok (.sipush 141, 3) := by decide +kernel
theorem dX8_goes_66 : decode cX8_goes 66 = .ok (.bipush 9, 2) := by decide +kernel
theorem dX8_goes_68 : decode cX8_goes 68 = .ok (.iload 4, 2) := by decide +kernel
theorem dX8_goes_70 : decode cX8_goes 70 = .ok (.imul, 1) := by decide +kernel
theorem dX8_goes_71 : decode cX8_goes 71 = .ok (.iadd, 1) := by decide +kernel
theorem dX8_goes_72 : decode cX8_goes 72 = .ok (.iload_n 3, 1) := by decide +kernel
theorem dX8_goes_73 : decode cX8_goes 73 = .ok (.iadd, 1) := by decide +kernel
theorem dX8_goes_74 : decode cX8_goes 74 = .ok (.aload_n 1, 1) := by decide +kernel
theorem dX8_goes_75 : decode cX8_goes 75 = .ok (.iload 5, 2) := by decide +kernel
theorem dX8_goes_77 : decode cX8_goes 77 = .ok (.iaload, 1) := by decide +kernel
theorem dX8_goes_78 : decode cX8_goes 78 = .ok (.iconst 1, 1) := by decide +kernel
theorem dX8_goes_79 : decode cX8_goes 79 = .ok (.isub, 1) := by decide +kernel
theorem dX8_goes_80 : decode cX8_goes 80 = .ok (.iastore, 1) := by decide +kernel
theorem dX8_goes_81 : decode cX8_goes 81 = .ok (.aload_n 1, 1) := by decide +kernel
theorem dX8_goes_82 : decode cX8_goes 82 = .ok (.iload 5, 2) := by decide +kernel
theorem dX8_goes_84 : decode cX8_goes 84 = .ok (.iconst 0, 1) := by decide +kernel
theorem dX8_goes_85 : decode cX8_goes 85 = .ok (.iastore, 1) := by decide +kernel
theorem dX8_goes_86 : decode cX8_goes 86 = .ok (.iinc 4 1, 3) := by decide +kernel
theorem dX8_goes_89 : decode cX8_goes 89 = .ok (.goto (-70), 3) := by decide +kernel
theorem dX8_goes_92 : decode cX8_goes 92 = .ok (.iinc 3 1, 3) := by decide +kernel
theorem dX8_goes_95 : decode cX8_goes 95 = .ok (.goto (-86), 3) := by decide +kernel
theorem dX8_goes_98 : decode cX8_goes 98 = .ok (.aload_n 0, 1) := by decide +kernel
theorem dX8_goes_99 : decode cX8_goes 99 = .ok (.iconst 0, 1) := by decide +kernel
theorem dX8_goes_100 : decode cX8_goes 100 = .ok (.putfield 173, 3) := by decide +kernel
theorem dX8_goes_103 : decode cX8_goes 103 = .ok (.iconst 0, 1) := by decide +kernel
theorem dX8_goes_104 : decode cX8_goes 104 = .ok (.istore_n 3, 1) := by decide +kernel
theorem dX8_goes_105 : decode cX8_goes 105 = .ok (.iload_n 3, 1) := by decide +kernel
theorem dX8_goes_106 : decode cX8_goes 106 = .ok (.aload_n 1, 1) := by decide +kernel
theorem dX8_goes_107 : decode cX8_goes 107 = .ok (.iconst 0, 1) := by decide +kernel
theorem dX8_goes_108 : decode cX8_goes 108 = .ok (.iaload, 1) := by decide +kernel
theorem dX8_goes_109 : decode cX8_goes 109 = .ok (.if_icmp .ge 24, 3) := by decide +kernel
theorem dX8_goes_112 : decode cX8_goes 112 = .ok (.aload_n 0, 1) := by decide +kernel
theorem dX8_goes_113 : decode cX8_goes 113 = .ok (.aload_n 1, 1) := by decide +kernel
theorem dX8_goes_114 : decode cX8_goes 114 = .ok (.iload_n 3, 1) := by decide +kernel
theorem dX8_goes_115 : decode cX8_goes 115 = .ok (.invokevirtual 180, 3) := by decide +kernel
theorem dX8_goes_118 : decode cX8_goes 118 = .ok (.ifCond .ne 9, 3) := by decide +kernel
theorem dX8_goes_121 : decode cX8_goes 121 = .ok (.aload_n 0, 1) := by decide +kernel
theorem dX8_goes_122 : decode cX8_goes 122 = .ok (.aload_n 1, 1) := by decide +kernel
theorem dX8_goes_123 : decode cX8_goes 123 = .ok (.iload_n 3, 1) := by decide +kernel
theorem dX8_goes_124 : decode cX8_goes 124 = .ok (.invokevirtual 183, 3) := by decide +kernel
theorem dX8_goes_127 : decode cX8_goes 127 = .ok (.iinc 3 1, 3) := by decide +kernel
theorem dX8_goes_130 : decode cX8_goes 130 = .ok (.goto (-25), 3) := by decide +kernel
theorem dX8_goes_133 : decode cX8_goes 133 = .ok (.aload_n 1, 1) := by decide +kernel
theorem dX8_goes_134 : decode cX8_goes 134 = .ok (.iconst 2, 1) := by decide +kernel
theorem dX8_goes_135 : decode cX8_goes 135 = .ok (.aload_n 1, 1) := by decide +kernel
theorem dX8_goes_136 : decode cX8_goes 136 = .ok (.iconst 2, 1) := by decide +kernel
theorem dX8_goes_137 : decode cX8_goes 137 = .ok (.iaload, 1) := by decide +kernel
theorem dX8_goes_138 : decode cX8_goes 138 = .ok (.aload_n 0, 1) := by decide +kernel
theorem dX8_goes_139 : decode cX8_goes 139 = .ok (.getfield 173, 3) := by decide +kernel
theorem dX8_goes_142 : decode cX8_goes 142 = .ok (.iadd, 1) := by decide +kernel
theorem dX8_goes_143 : decode cX8_goes 143 = .ok (.ldc 186, 2) := by decide +kernel
theorem dX8_goes_145 : decode cX8_goes 145 = .ok (.if_icmp .le 8, 3) := by decide +kernel
theorem dX8_goes_148 : decode cX8_goes 148 = .ok (.ldc 186, 2) := by decide +kernel
theorem dX8_goes_150 : decode cX8_goes 150 = .ok (.goto 11, 3) := by decide +kernel
theorem dX8_goes_153 : decode cX8_goes 153 = .ok (.aload_n 1, 1) := by decide +kernel
theorem dX8_goes_154 : decode cX8_goes 154 = .ok (.iconst 2, 1) := by decide +kernel
theorem dX8_goes_155 : decode cX8_goes 155 = .ok (.iaload, 1) := by decide +kernel
theorem dX8_goes_156 : decode cX8_goes 156 = .ok (.aload_n 0, 1) := by decide +kernel
theorem dX8_goes_157 : decode cX8_goes 157 = .ok (.getfield 173, 3) := by decide +kernel
theorem dX8_goes_160 : decode cX8_goes 160 = .ok (.iadd, 1) := by decide +kernel
theorem dX8_goes_161 : decode cX8_goes 161 = .ok (.iastore, 1) := by decide +kernel
theorem dX8_goes_162 : decode cX8_goes 162 = .ok (.aload_n 1, 1) := by decide +kernel
theorem dX8_goes_163 : decode cX8_goes 163 = .ok (.iconst 1, 1) := by decide +kernel
theorem dX8_goes_164 : decode cX8_goes 164 = .ok (.dup2, 1) := by decide +kernel
theorem dX8_goes_165 : decode cX8_goes 165 = .ok (.iaload, 1) := by decide +kernel
theorem dX8_goes_166 : decode cX8_goes 166 = .ok (.iconst 1, 1) := by decide +kernel
theorem dX8_goes_167 : decode cX8_goes 167 = .ok (.iadd, 1) := by decide +kernel
theorem dX8_goes_168 : decode cX8_goes 168 = .ok (.iastore, 1) := by decide +kernel
theorem dX8_goes_169 : decode cX8_goes 169 = .ok (.return_, 1) := by decide +kernel
theorem dX8_minute_0 : decode cX8_minute 0 = .ok (.aload_n 0, 1) := by decide +kernel
theorem dX8_minute_1 : decode cX8_minute 1 = .ok (.iconst 0, 1) := by decide +kernel
theorem dX8_minute_2 : decode cX8_minute 2 = .ok (.putfield 48, 3) := by decide +kernel
theorem dX8_minute_5 : decode cX8_minute 5 = .ok (.aload_n 0, 1) := by decide +kernel
theorem dX8_minute_6 : decode cX8_minute 6 = .ok (.getfield 7, 3) := by decide +kernel
theorem dX8_minute_9 : decode cX8_minute 9 = .ok (.iconst 1, 1) := by decide +kernel
theorem dX8_minute_10 : decode cX8_minute 10 = .ok (.iaload, 1) := by decide +kernel
theorem dX8_minute_11 : decode cX8_minute 11 = .ok (.sipush 999, 3) := by decide +kernel
theorem dX8_minute_14 : decode cX8_minute 14 = .ok (.if_icmp .ne 6, 3) := by decide +kernel
theorem dX8_minute_17 : decode cX8_minute 17 = .ok (.bipush (-3), 2) := by decide +kernel
theorem dX8_minute_19 : decode cX8_minute 19 = .ok (.ireturn, 1) := by decide +kernel
theorem dX8_minute_20 : decode cX8_minute 20 = .ok (.aload_n 0, 1) := by decide +kernel
theorem dX8_minute_21 : decode cX8_minute 21 = .ok (.aload_n 0, 1) := by decide +kernel
theorem dX8_minute_22 : decode cX8_minute 22 = .ok (.getfield 7, 3) := by decide +kernel
theorem dX8_minute_25 : decode cX8_minute 25 = .ok (.invokevirtual 187, 3) := by decide +kernel
theorem dX8_minute_28 : decode cX8_minute 28 = .ok (.aload_n 0, 1) := by decide +kernel
theorem dX8_minute_29 : decode cX8_minute 29 = .ok (.getfield 173, 3) := by decide +kernel
theorem dX8_minute_32 : decode cX8_minute 32 = .ok (.ireturn, 1) := by decide +kernel
theorem dX8_gone_0 : decode cX8_gone 0 = .ok (.iconst 0, 1) := by decide +kernel
theorem dX8_gone_1 : decode cX8_gone 1 = .ok (.istore_n 2, 1) := by decide +kernel
theorem dX8_gone_2 : decode cX8_gone 2 = .ok (.iconst 0, 1) := by decide +kernel
theorem dX8_gone_3 : decode cX8_gone 3 = .ok (.istore_n 3, 1) := by decide +kernel
theorem dX8_gone_4 : decode cX8_gone 4 = .ok (.iload_n 3, 1) := by decide +kernel
theorem dX8_gone_5 : decode cX8_gone 5 = .ok (.iload_n 1, 1) := by decide +kernel
theorem dX8_gone_6 : decode cX8_gone 6 = .ok (.if_icmp .ge 24, 3) := by decide +kernel
theorem dX8_gone_9 : decode cX8_gone 9 = .ok (.aload_n 0, 1) := by decide +kernel
theorem dX8_gone_10 : decode cX8_gone 10 = .ok (.aload_n 0, 1) := by decide +kernel
theorem dX8_gone_11 : decode cX8_gone 11 = .ok (.getfield 7, 3) := by decide +kernel
theorem dX8_gone_14 : decode cX8_gone 14 = .ok (.invokevirtual 187, 3) := by decide +kernel
theorem dX8_gone_17 : decode cX8_gone 17 = .ok (.iload_n 2, 1) := by decide +kernel
theorem dX8_gone_18 : decode cX8_gone 18 = .ok (.aload_n 0, 1) := by decide +kernel
theorem dX8_gone_19 : decode cX8_gone 19 = .ok (.getfield 173, 3) := by decide +kernel
theorem dX8_gone_22 : decode cX8_gone 22 = .ok (.iadd, 1) := by decide +kernel
theorem dX8_gone_23 : decode cX8_gone 23 = .ok (.istore_n 2, 1) := by decide +kernel
theorem dX8_gone_24 : decode cX8_gone 24 = .ok (.iinc 3 1, 3) := by decide +kernel
theorem dX8_gone_27 : decode cX8_gone 27 = .ok (.goto (-23), 3) := by decide +kernel
theorem dX8_gone_30 : decode cX8_gone 30 = .ok (.iload_n 2, 1) := by decide +kernel
theorem dX8_gone_31 : decode cX8_gone 31 = .ok (.ireturn, 1) := by decide +kernel
theorem dX8_night_0 : decode cX8_night 0 = .ok (.aload_n 0, 1) := by decide +kernel
theorem dX8_night_1 : decode cX8_night 1 = .ok (.iconst 0, 1) := by decide +kernel
theorem dX8_night_2 : decode cX8_night 2 = .ok (.putfield 48, 3) := by decide +kernel
theorem dX8_night_5 : decode cX8_night 5 = .ok (.iload_n 1, 1) := by decide +kernel
theorem dX8_night_6 : decode cX8_night 6 = .ok (.i2l, 1) := by decide +kernel
theorem dX8_night_7 : decode cX8_night 7 = .ok (.lconst 1, 1) := by decide +kernel
theorem dX8_night_8 : decode cX8_night 8 = .ok (.ldc2_w 191, 3) := by decide +kernel
theorem dX8_night_11 : decode cX8_night 11 = .ok (.invokestatic 51, 3) := by decide +kernel
theorem dX8_night_14 : decode cX8_night 14 = .ok (.ifCond .ne 5, 3) := by decide +kernel
theorem dX8_night_17 : decode cX8_night 17 = .ok (.iconst (-1), 1) := by decide +kernel
theorem dX8_night_18 : decode cX8_night 18 = .ok (.ireturn, 1) := by decide +kernel
theorem dX8_night_19 : decode cX8_night 19 = .ok (.aload_n 0, 1) := by decide +kernel
theorem dX8_night_20 : decode cX8_night 20 = .ok (.getfield 7, 3) := by decide +kernel
theorem dX8_night_23 : decode cX8_night 23 = .ok (.iconst 1, 1) := by decide +kernel
theorem dX8_night_24 : decode cX8_night 24 = .ok (.iaload, 1) := by decide +kernel
theorem dX8_night_25 : decode cX8_night 25 = .ok (.iload_n 1, 1) := by decide +kernel
theorem dX8_night_26 : decode cX8_night 26 = .ok (.iadd, 1) := by decide +kernel
theorem dX8_night_27 : decode cX8_night 27 = .ok (.sipush 999, 3) := by decide +kernel
theorem dX8_night_30 : decode cX8_night 30 = .ok (.if_icmp .le 8, 3) := by decide +kernel
theorem dX8_night_33 : decode cX8_night 33 = .ok (.bipush (-3), 2) := by decide +kernel
theorem dX8_night_35 : decode cX8_night 35 = .ok (.goto 8, 3) := by decide +kernel
theorem dX8_night_38 : decode cX8_night 38 = .ok (.aload_n 0, 1) := by decide +kernel
theorem dX8_night_39 : decode cX8_night 39 = .ok (.iload_n 1, 1) := by decide +kernel
theorem dX8_night_40 : decode cX8_night 40 = .ok (.invokevirtual 193, 3) := by decide +kernel
theorem dX8_night_43 : decode cX8_night 43 = .ok (.ireturn, 1) := by decide +kernel
theorem dX8_lots_0 : decode cX8_lots 0 = .ok (.aload_n 0, 1) := by decide +kernel
theorem dX8_lots_1 : decode cX8_lots 1 = .ok (.iconst 0, 1) := by decide +kernel
theorem dX8_lots_2 : decode cX8_lots 2 = .ok (.putfield 48, 3) := by decide +kernel
theorem dX8_lots_5 : decode cX8_lots 5 = .ok (.iload_n 1, 1) := by decide +kernel
theorem dX8_lots_6 : decode cX8_lots 6 = .ok (.i2l, 1) := by decide +kernel
theorem dX8_lots_7 : decode cX8_lots 7 = .ok (.lconst 1, 1) := by decide +kernel
theorem dX8_lots_8 : decode cX8_lots 8 = .ok (.ldc2_w 191, 3) := by decide +kernel
theorem dX8_lots_11 : decode cX8_lots 11 = .ok (.invokestatic 51, 3) := by decide +kernel
theorem dX8_lots_14 : decode cX8_lots 14 = .ok (.ifCond .ne 5, 3) := by decide +kernel
theorem dX8_lots_17 : decode cX8_lots 17 = .ok (.iconst (-1), 1) := by decide +kernel
theorem dX8_lots_18 : decode cX8_lots 18 = .ok (.ireturn, 1) := by decide +kernel
theorem dX8_lots_19 : decode cX8_lots 19 = .ok (.aload_n 0, 1) := by decide +kernel
theorem dX8_lots_20 : decode cX8_lots 20 = .ok (.getfield 7, 3) := by decide +kernel
theorem dX8_lots_23 : decode cX8_lots 23 = .ok (.iconst 1, 1) := by decide +kernel
theorem dX8_lots_24 : decode cX8_lots 24 = .ok (.iaload, 1) := by decide +kernel
theorem dX8_lots_25 : decode cX8_lots 25 = .ok (.iload_n 1, 1) := by decide +kernel
theorem dX8_lots_26 : decode cX8_lots 26 = .ok (.iadd, 1) := by decide +kernel
theorem dX8_lots_27 : decode cX8_lots 27 = .ok (.sipush 999, 3) := by decide +kernel
theorem dX8_lots_30 : decode cX8_lots 30 = .ok (.if_icmp .le 6, 3) := by decide +kernel
theorem dX8_lots_33 : decode cX8_lots 33 = .ok (.bipush (-3), 2) := by decide +kernel
theorem dX8_lots_35 : decode cX8_lots 35 = .ok (.ireturn, 1) := by decide +kernel
theorem dX8_lots_36 : decode cX8_lots 36 = .ok (.aload_n 0, 1) := by decide +kernel
theorem dX8_lots_37 : decode cX8_lots 37 = .ok (.iconst 1, 1) := by decide +kernel
theorem dX8_lots_38 : decode cX8_lots 38 = .ok (.putfield 165, 3) := by decide +kernel
theorem dX8_lots_41 : decode cX8_lots 41 = .ok (.aload_n 0, 1) := by decide +kernel
theorem dX8_lots_42 : decode cX8_lots 42 = .ok (.iload_n 1, 1) := by decide +kernel
theorem dX8_lots_43 : decode cX8_lots 43 = .ok (.invokevirtual 193, 3) := by decide +kernel
theorem dX8_lots_46 : decode cX8_lots 46 = .ok (.istore_n 2, 1) := by decide +kernel
theorem dX8_lots_47 : decode cX8_lots 47 = .ok (.aload_n 0, 1) := by decide +kernel
theorem dX8_lots_48 : decode cX8_lots 48 = .ok (.iconst 0, 1) := by decide +kernel
theorem dX8_lots_49 : decode cX8_lots 49 = .ok (.putfield 165, 3) := by decide +kernel
theorem dX8_lots_52 : decode cX8_lots 52 = .ok (.iload_n 2, 1) := by decide +kernel
theorem dX8_lots_53 : decode cX8_lots 53 = .ok (.ireturn, 1) := by decide +kernel
theorem dX8_seed_0 : decode cX8_seed 0 = .ok (.aload_n 0, 1) := by decide +kernel
theorem dX8_seed_1 : decode cX8_seed 1 = .ok (.iconst 0, 1) := by decide +kernel
theorem dX8_seed_2 : decode cX8_seed 2 = .ok (.putfield 48, 3) := by decide +kernel
theorem dX8_seed_5 : decode cX8_seed 5 = .ok (.iload_n 1, 1) := by decide +kernel
theorem dX8_seed_6 : decode cX8_seed 6 = .ok (.ifCond .ge 5, 3) := by decide +kernel
theorem dX8_seed_9 : decode cX8_seed 9 = .ok (.iconst (-1), 1) := by decide +kernel
theorem dX8_seed_10 : decode cX8_seed 10 = .ok (.ireturn, 1) := by decide +kernel
theorem dX8_seed_11 : decode cX8_seed 11 = .ok (.aload_n 0, 1) := by decide +kernel
theorem dX8_seed_12 : decode cX8_seed 12 = .ok (.getfield 7, 3) := by decide +kernel
theorem dX8_seed_15 : decode cX8_seed 15 = .ok (.iconst 5, 1) := by decide +kernel
theorem dX8_seed_16 : decode cX8_seed 16 = .ok (.iaload, 1) := by decide +kernel
theorem dX8_seed_17 : decode cX8_seed 17 = .ok (.istore_n 2, 1) := by decide +kernel
theorem dX8_seed_18 : decode cX8_seed 18 = .ok (.aload_n 0, 1) := by decide +kernel
theorem dX8_seed_19 : decode cX8_seed 19 = .ok (.getfield 7, 3) := by decide +kernel
theorem dX8_seed_22 : decode cX8_seed 22 = .ok (.iconst 5, 1) := by decide +kernel
theorem dX8_seed_23 : decode cX8_seed 23 = .ok (.iload_n 1, 1) := by decide +kernel
theorem dX8_seed_24 : decode cX8_seed 24 = .ok (.iastore, 1) := by decide +kernel
theorem dX8_seed_25 : decode cX8_seed 25 = .ok (.iload_n 2, 1) := by decide +kernel
theorem dX8_seed_26 : decode cX8_seed 26 = .ok (.ireturn, 1) := by decide +kernel
theorem dX8_copies_0 : decode cX8_copies 0 = .ok (.iconst 0, 1) := by decide +kernel
theorem dX8_copies_1 : decode cX8_copies 1 = .ok (.istore_n 2, 1) := by decide +kernel
theorem dX8_copies_2 : decode cX8_copies 2 = .ok (.iload_n 2, 1) := by decide +kernel
theorem dX8_copies_3 : decode cX8_copies 3 = .ok (.sipush 1829, 3) := by decide +kernel
theorem dX8_copies_6 : decode cX8_copies 6 = .ok (.if_icmp .ge 15, 3) := by decide +kernel
theorem dX8_copies_9 : decode cX8_copies 9 = .ok (.aload_n 1, 1) := by decide +kernel
theorem dX8_copies_10 : decode cX8_copies 10 = .ok (.iload_n 2, 1) := by decide +kernel
theorem dX8_copies_11 : decode cX8_copies 11 = .ok (.aload_n 0, 1) := by decide +kernel
theorem dX8_copies_12 : decode cX8_copies 12 = .ok (.iload_n 2, 1) := by decide +kernel
theorem dX8_copies_13 : decode cX8_copies 13 = .ok (.iaload, 1) := by decide +kernel
theorem dX8_copies_14 : decode cX8_copies 14 = .ok (.iastore, 1) := by decide +kernel
theorem dX8_copies_15 : decode cX8_copies 15 = .ok (.iinc 2 1, 3) := by decide +kernel
theorem dX8_copies_18 : decode cX8_copies 18 = .ok (.goto (-16), 3) := by decide +kernel
theorem dX8_copies_21 : decode cX8_copies 21 = .ok (.return_, 1) := by decide +kernel
theorem dX8_tries_0 : decode cX8_tries 0 = .ok (.aload_n 1, 1) := by decide +kernel
theorem dX8_tries_1 : decode cX8_tries 1 = .ok (.aload_n 0, 1) := by decide +kernel
theorem dX8_tries_2 : decode cX8_tries 2 = .ok (.getfield 16, 3) := by decide +kernel
theorem dX8_tries_5 : decode cX8_tries 5 = .ok (.invokestatic 196, 3) := by decide +kernel
theorem dX8_tries_8 : decode cX8_tries 8 = .ok (.iconst 0, 1) := by decide +kernel
theorem dX8_tries_9 : decode cX8_tries 9 = .ok (.istore_n 3, 1) := by decide +kernel
theorem dX8_tries_10 : decode cX8_tries 10 = .ok (.iload_n 3, 1) := by decide +kernel
theorem dX8_tries_11 : decode cX8_tries 11 = .ok (.iload_n 2, 1) := by decide +kernel
theorem dX8_tries_12 : decode cX8_tries 12 = .ok (.if_icmp .ge 17, 3) := by decide +kernel
theorem dX8_tries_15 : decode cX8_tries 15 = .ok (.aload_n 0, 1) := by decide +kernel
theorem dX8_tries_16 : decode cX8_tries 16 = .ok (.aload_n 0, 1) := by decide +kernel
theorem dX8_tries_17 : decode cX8_tries 17 = .ok (.getfield 16, 3) := by decide +kernel
theorem dX8_tries_20 : decode cX8_tries 20 = .ok (.invokevirtual 187, 3) := by decide +kernel
theorem dX8_tries_23 : decode cX8_tries 23 = .ok (.iinc 3 1, 3) := by decide +kernel
theorem dX8_tries_26 : decode cX8_tries 26 = .ok (.goto (-16), 3) := by decide +kernel
theorem dX8_tries_29 : decode cX8_tries 29 = .ok (.return_, 1) := by decide +kernel
theorem dX8_behind_0 : decode cX8_behind 0 = .ok (.aload_n 0, 1) := by decide +kernel
theorem dX8_behind_1 : decode cX8_behind 1 = .ok (.iconst 0, 1) := by decide +kernel
theorem dX8_behind_2 : decode cX8_behind 2 = .ok (.putfield 48, 3) := by decide +kernel
theorem dX8_behind_5 : decode cX8_behind 5 = .ok (.aload_n 0, 1) := by decide +kernel
theorem dX8_behind_6 : decode cX8_behind 6 = .ok (.iload_n 1, 1) := by decide +kernel
theorem dX8_behind_7 : decode cX8_behind 7 = .ok (.invokevirtual 65, 3) := by decide +kernel
theorem dX8_behind_10 : decode cX8_behind 10 = .ok (.ifCond .eq 25, 3) := by decide +kernel
theorem dX8_behind_13 : decode cX8_behind 13 = .ok (.iload_n 2, 1) := by decide +kernel
theorem dX8_behind_14 : decode cX8_behind 14 = .ok (.i2l, 1) := by decide +kernel
theorem dX8_behind_15 : decode cX8_behind 15 = .ok (.lconst 0, 1) := by decide +kernel
theorem dX8_behind_16 : decode cX8_behind 16 = .ok (.ldc2_w 191, 3) := by decide +kernel
theorem dX8_behind_19 : decode cX8_behind 19 = .ok (.invokestatic 51, 3) := by decide +kernel
theorem dX8_behind_22 : decode cX8_behind 22 = .ok (.ifCond .eq 13, 3) := by decide +kernel
theorem dX8_behind_25 : decode cX8_behind 25 = .ok (.iload_n 3, 1) := by decide +kernel
theorem dX8_behind_26 : decode cX8_behind 26 = .ok (.i2l, 1) := by decide +kernel
theorem dX8_behind_27 : decode cX8_behind 27 = .ok (.lconst 0, 1) := by decide +kernel
theorem dX8_behind_28 : decode cX8_behind 28 = .ok (.lconst 1, 1) := by decide +kernel
theorem dX8_behind_29 : decode cX8_behind 29 = .ok (.invokestatic 51, 3) := by decide +kernel
theorem dX8_behind_32 : decode cX8_behind 32 = .ok (.ifCond .ne 5, 3) := by decide +kernel
theorem dX8_behind_35 : decode cX8_behind 35 = .ok (.iconst (-1), 1) := by decide +kernel
theorem dX8_behind_36 : decode cX8_behind 36 = .ok (.ireturn, 1) := by decide +kernel
theorem dX8_behind_37 : decode cX8_behind 37 = .ok (.aload_n 0, 1) := by decide +kernel
theorem dX8_behind_38 : decode cX8_behind 38 = .ok (.aload_n 0, 1) := by decide +kernel
theorem dX8_behind_39 : decode cX8_behind 39 = .ok (.getfield 7, 3) := by decide +kernel
theorem dX8_behind_42 : decode cX8_behind 42 = .ok (.iload_n 2, 1) := by decide +kernel
theorem dX8_behind_43 : decode cX8_behind 43 = .ok (.invokevirtual 200, 3) := by decide +kernel
theorem dX8_behind_46 : decode cX8_behind 46 = .ok (.aload_n 0, 1) := by decide +kernel
theorem dX8_behind_47 : decode cX8_behind 47 = .ok (.getfield 16, 3) := by decide +kernel
theorem dX8_behind_50 : decode cX8_behind 50 = .ok (.bipush 6, 2) := by decide +kernel
theorem dX8_behind_52 : decode cX8_behind 52 = .ok (.bipush 6, 2) := by decide +kernel
theorem dX8_behind_54 : decode cX8_behind 54 = .ok (.iload_n 1, 1) := by decide +kernel
theorem dX8_behind_55 : decode cX8_behind 55 = .ok (.imul, 1) := by decide +kernel
theorem dX8_behind_56 : decode cX8_behind 56 = .ok (.iadd, 1) := by decide +kernel
theorem dX8_behind_57 : decode cX8_behind 57 = .ok (.iload_n 3, 1) := by decide +kernel
theorem dX8_behind_58 : decode cX8_behind 58 = .ok (.ifCond .ne 7, 3) := by decide +kernel
theorem dX8_behind_61 : decode cX8_behind 61 = .ok (.iconst 2, 1) := by decide +kernel
theorem dX8_behind_62 : decode cX8_behind 62 = .ok (.goto 4, 3) := by decide +kernel
theorem dX8_behind_65 : decode cX8_behind 65 = .ok (.iconst 1, 1) := by decide +kernel
theorem dX8_behind_66 : decode cX8_behind 66 = .ok (.iadd, 1) := by decide +kernel
theorem dX8_behind_67 : decode cX8_behind 67 = .ok (.iaload, 1) := by decide +kernel
theorem dX8_behind_68 : decode cX8_behind 68 = .ok (.ireturn, 1) := by decide +kernel
theorem dX8_doneBy_0 : decode cX8_doneBy 0 = .ok (.aload_n 1, 1) := by decide +kernel
theorem dX8_doneBy_1 : decode cX8_doneBy 1 = .ok (.aload_n 0, 1) := by decide +kernel
theorem dX8_doneBy_2 : decode cX8_doneBy 2 = .ok (.getfield 16, 3) := by decide +kernel
theorem dX8_doneBy_5 : decode cX8_doneBy 5 = .ok (.invokestatic 196, 3) := by decide +kernel
theorem dX8_doneBy_8 : decode cX8_doneBy 8 = .ok (.iconst 0, 1) := by decide +kernel
theorem dX8_doneBy_9 : decode cX8_doneBy 9 = .ok (.istore_n 3, 1) := by decide +kernel
theorem dX8_doneBy_10 : decode cX8_doneBy 10 = .ok (.iload_n 3, 1) := by decide +kernel
theorem dX8_doneBy_11 : decode cX8_doneBy 11 = .ok (.bipush 61, 2) := by decide +kernel
theorem dX8_doneBy_13 : decode cX8_doneBy 13 = .ok (.if_icmp .ge 28, 3) := by decide +kernel
theorem dX8_doneBy_16 : decode cX8_doneBy 16 = .ok (.aload_n 0, 1) := by decide +kernel
theorem dX8_doneBy_17 : decode cX8_doneBy 17 = .ok (.getfield 16, 3) := by decide +kernel
theorem dX8_doneBy_20 : decode cX8_doneBy 20 = .ok (.iload_n 2, 1) := by decide +kernel
theorem dX8_doneBy_21 : decode cX8_doneBy 21 = .ok (.invokestatic 148, 3) := by decide +kernel
theorem dX8_doneBy_24 : decode cX8_doneBy 24 = .ok (.ifCond .ne 17, 3) := by decide +kernel
theorem dX8_doneBy_27 : decode cX8_doneBy 27 = .ok (.aload_n 0, 1) := by decide +kernel
theorem dX8_doneBy_28 : decode cX8_doneBy 28 = .ok (.aload_n 0, 1) := by decide +kernel
theorem dX8_doneBy_29 : decode cX8_doneBy 29 = .ok (.getfield 16, 3) := by decide +kernel
theorem dX8_doneBy_32 : decode cX8_doneBy 32 = .ok (.invokevirtual 187, 3) := by decide +kernel
theorem dX8_doneBy_35 : decode cX8_doneBy 35 = .ok (.iinc 3 1, 3) := by decide +kernel
theorem dX8_doneBy_38 : decode cX8_doneBy 38 = .ok (.goto (-28), 3) := by decide +kernel
theorem dX8_doneBy_41 : decode cX8_doneBy 41 = .ok (.iload_n 3, 1) := by decide +kernel
theorem dX8_doneBy_42 : decode cX8_doneBy 42 = .ok (.ireturn, 1) := by decide +kernel
theorem dX8_when_0 : decode cX8_when 0 = .ok (.aload_n 0, 1) := by decide +kernel
theorem dX8_when_1 : decode cX8_when 1 = .ok (.iconst 0, 1) := by decide +kernel
theorem dX8_when_2 : decode cX8_when 2 = .ok (.putfield 48, 3) := by decide +kernel
theorem dX8_when_5 : decode cX8_when 5 = .ok (.iload_n 1, 1) := by decide +kernel
theorem dX8_when_6 : decode cX8_when 6 = .ok (.i2l, 1) := by decide +kernel
theorem dX8_when_7 : decode cX8_when 7 = .ok (.lconst 0, 1) := by decide +kernel
theorem dX8_when_8 : decode cX8_when 8 = .ok (.lconst 1, 1) := by decide +kernel
theorem dX8_when_9 : decode cX8_when 9 = .ok (.invokestatic 51, 3) := by decide +kernel
theorem dX8_when_12 : decode cX8_when 12 = .ok (.ifCond .ne 5, 3) := by decide +kernel
theorem dX8_when_15 : decode cX8_when 15 = .ok (.iconst (-1), 1) := by decide +kernel
theorem dX8_when_16 : decode cX8_when 16 = .ok (.ireturn, 1) := by decide +kernel
theorem dX8_when_17 : decode cX8_when 17 = .ok (.iload_n 1, 1) := by decide +kernel
theorem dX8_when_18 : decode cX8_when 18 = .ok (.ifCond .ne 26, 3) := by decide +kernel
theorem dX8_when_21 : decode cX8_when 21 = .ok (.aload_n 0, 1) := by decide +kernel
theorem dX8_when_22 : decode cX8_when 22 = .ok (.aload_n 0, 1) := by decide +kernel
theorem dX8_when_23 : decode cX8_when 23 = .ok (.getfield 7, 3) := by decide +kernel
theorem dX8_when_26 : decode cX8_when 26 = .ok (.iconst (-1), 1) := by decide +kernel
theorem dX8_when_27 : decode cX8_when 27 = .ok (.invokevirtual 203, 3) := by decide +kernel
theorem dX8_when_30 : decode cX8_when 30 = .ok (.istore_n 2, 1) := by decide +kernel
theorem dX8_when_31 : decode cX8_when 31 = .ok (.iload_n 2, 1) := by decide +kernel
theorem dX8_when_32 : decode cX8_when 32 = .ok (.bipush 61, 2) := by decide +kernel
theorem dX8_when_34 : decode cX8_when 34 = .ok (.if_icmp .ne 8, 3) := by decide +kernel
theorem dX8_when_37 : decode cX8_when 37 = .ok (.bipush (-4), 2) := by decide +kernel
theorem dX8_when_39 : decode cX8_when 39 = .ok (.goto 4, 3) := by decide +kernel
theorem dX8_when_42 : decode cX8_when 42 = .ok (.iload_n 2, 1) := by decide +kernel
theorem dX8_when_43 : decode cX8_when 43 = .ok (.ireturn, 1) := by decide +kernel
theorem dX8_when_44 : decode cX8_when 44 = .ok (.aload_n 0, 1) := by decide +kernel
theorem dX8_when_45 : decode cX8_when 45 = .ok (.getfield 7, 3) := by decide +kernel
theorem dX8_when_48 : decode cX8_when 48 = .ok (.aload_n 0, 1) := by decide +kernel
theorem dX8_when_49 : decode cX8_when 49 = .ok (.getfield 16, 3) := by decide +kernel
theorem dX8_when_52 : decode cX8_when 52 = .ok (.invokestatic 196, 3) := by decide +kernel
theorem dX8_when_55 : decode cX8_when 55 = .ok (.iconst 0, 1) := by decide +kernel
theorem dX8_when_56 : decode cX8_when 56 = .ok (.istore_n 2, 1) := by decide +kernel
theorem dX8_when_57 : decode cX8_when 57 = .ok (.iload_n 2, 1) := by decide +kernel
theorem dX8_when_58 : decode cX8_when 58 = .ok (.bipush 61, 2) := by decide +kernel
theorem dX8_when_60 : decode cX8_when 60 = .ok (.if_icmp .ge 29, 3) := by decide +kernel
theorem dX8_when_63 : decode cX8_when 63 = .ok (.aload_n 0, 1) := by decide +kernel
theorem dX8_when_64 : decode cX8_when 64 = .ok (.getfield 16, 3) := by decide +kernel
theorem dX8_when_67 : decode cX8_when 67 = .ok (.invokestatic 151, 3) := by decide +kernel
theorem dX8_when_70 : decode cX8_when 70 = .ok (.ifCond .eq 5, 3) := by decide +kernel
theorem dX8_when_73 : decode cX8_when 73 = .ok (.iload_n 2, 1) := by decide +kernel
theorem dX8_when_74 : decode cX8_when 74 = .ok (.ireturn, 1) := by decide +kernel
theorem dX8_when_75 : decode cX8_when 75 = .ok (.aload_n 0, 1) := by decide +kernel
theorem dX8_when_76 : decode cX8_when 76 = .ok (.aload_n 0, 1) := by decide +kernel
theorem dX8_when_77 : decode cX8_when 77 = .ok (.getfield 16, 3) := by decide +kernel
theorem dX8_when_80 : decode cX8_when 80 = .ok (.invokevirtual 187, 3) := by decide +kernel
theorem dX8_when_83 : decode cX8_when 83 = .ok (.iinc 2 1, 3) := by decide +kernel
theorem dX8_when_86 : decode cX8_when 86 = .ok (.goto (-29), 3) := by decide +kernel
theorem dX8_when_89 : decode cX8_when 89 = .ok (.bipush (-4), 2) := by decide +kernel
theorem dX8_when_91 : decode cX8_when 91 = .ok (.ireturn, 1) := by decide +kernel
theorem dX8_darkest_0 : decode cX8_darkest 0 = .ok (.aload_n 0, 1) := by decide +kernel
theorem dX8_darkest_1 : decode cX8_darkest 1 = .ok (.iconst 0, 1) := by decide +kernel
theorem dX8_darkest_2 : decode cX8_darkest 2 = .ok (.putfield 48, 3) := by decide +kernel
theorem dX8_darkest_5 : decode cX8_darkest 5 = .ok (.iload_n 1, 1) := by decide +kernel
theorem dX8_darkest_6 : decode cX8_darkest 6 = .ok (.i2l, 1) := by decide +kernel
theorem dX8_darkest_7 : decode cX8_darkest 7 = .ok (.lconst 0, 1) := by decide +kernel
theorem dX8_darkest_8 : decode cX8_darkest 8 = .ok (.lconst 1, 1) := by decide +kernel
theorem dX8_darkest_9 : decode cX8_darkest 9 = .ok (.invokestatic 51, 3) := by decide +kernel
theorem dX8_darkest_12 : decode cX8_darkest 12 = .ok (.ifCond .ne 5, 3) := by decide +kernel
theorem dX8_darkest_15 : decode cX8_darkest 15 = .ok (.iconst (-1), 1) := by decide +kernel
theorem dX8_darkest_16 : decode cX8_darkest 16 = .ok (.ireturn, 1) := by decide +kernel
theorem dX8_darkest_17 : decode cX8_darkest 17 = .ok (.bipush (-4), 2) := by decide +kernel
theorem dX8_darkest_19 : decode cX8_darkest 19 = .ok (.istore_n 2, 1) := by decide +kernel
theorem dX8_darkest_20 : decode cX8_darkest 20 = .ok (.iconst (-1), 1) := by decide +kernel
theorem dX8_darkest_21 : decode cX8_darkest 21 = .ok (.istore_n 3, 1) := by decide +kernel
theorem dX8_darkest_22 : decode cX8_darkest 22 = .ok (.iconst 0, 1) := by decide +kernel
theorem dX8_darkest_23 : decode cX8_darkest 23 = .ok (.istore 4, 2) := by decide +kernel
theorem dX8_darkest_25 : decode cX8_darkest 25 = .ok (.iload 4, 2) := by decide +kernel
theorem dX8_darkest_27 : decode cX8_darkest 27 = .ok (.aload_n 0, 1) := by decide +kernel
theorem dX8_darkest_28 : decode cX8_darkest 28 = .ok (.getfield 7, 3) := by decide +kernel
theorem dX8_darkest_31 : decode cX8_darkest 31 = .ok (.iconst 0, 1) := by decide +kernel
theorem dX8_darkest_32 : decode cX8_darkest 32 = .ok (.iaload, 1) := by decide +kernel
theorem dX8_darkest_33 : decode cX8_darkest 33 = .ok (.if_icmp .ge 53, 3) := by decide +kernel
theorem dX8_darkest_36 : decode cX8_darkest 36 = .ok (.aload_n 0, 1) := by decide +kernel
