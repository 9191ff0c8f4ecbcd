theorem dX8_darkest_37 : decode cX8_darkest 37 = .ok (.iload 4, 2) := by decide +kernel
theorem dX8_darkest_39 : decode cX8_darkest 39 = .ok (.putfield 38, 3) := by decide +kernel
theorem dX8_darkest_42 : decode cX8_darkest 42 = .ok (.aload_n 0, 1) := by decide +kernel
theorem dX8_darkest_43 : decode cX8_darkest 43 = .ok (.aload_n 0, 1) := by decide +kernel
theorem dX8_darkest_44 : decode cX8_darkest 44 = .ok (.getfield 7, 3) := by decide +kernel
theorem dX8_darkest_47 : decode cX8_darkest 47 = .ok (.iload 4, 2) := by decide +kernel
theorem dX8_darkest_49 : decode cX8_darkest 49 = .ok (.invokevirtual 203, 3) := by decide +kernel
theorem dX8_darkest_52 : decode cX8_darkest 52 = .ok (.istore 5, 2) := by decide +kernel
theorem dX8_darkest_54 : decode cX8_darkest 54 = .ok (.iload 5, 2) := by decide +kernel
theorem dX8_darkest_56 : decode cX8_darkest 56 = .ok (.iload_n 3, 1) := by decide +kernel
theorem dX8_darkest_57 : decode cX8_darkest 57 = .ok (.if_icmp .le 8, 3) := by decide +kernel
theorem dX8_darkest_60 : decode cX8_darkest 60 = .ok (.iload 4, 2) := by decide +kernel
theorem dX8_darkest_62 : decode cX8_darkest 62 = .ok (.goto 4, 3) := by decide +kernel
theorem dX8_darkest_65 : decode cX8_darkest 65 = .ok (.iload_n 2, 1) := by decide +kernel
theorem dX8_darkest_66 : decode cX8_darkest 66 = .ok (.istore_n 2, 1) := by decide +kernel
theorem dX8_darkest_67 : decode cX8_darkest 67 = .ok (.iload 5, 2) := by decide +kernel
theorem dX8_darkest_69 : decode cX8_darkest 69 = .ok (.iload_n 3, 1) := by decide +kernel
theorem dX8_darkest_70 : decode cX8_darkest 70 = .ok (.if_icmp .le 8, 3) := by decide +kernel
theorem dX8_darkest_73 : decode cX8_darkest 73 = .ok (.iload 5, 2) := by decide +kernel
theorem dX8_darkest_75 : decode cX8_darkest 75 = .ok (.goto 4, 3) := by decide +kernel
theorem dX8_darkest_78 : decode cX8_darkest 78 = .ok (.iload_n 3, 1) := by decide +kernel
theorem dX8_darkest_79 : decode cX8_darkest 79 = .ok (.istore_n 3, 1) := by decide +kernel
theorem dX8_darkest_80 : decode cX8_darkest 80 = .ok (.iinc 4 1, 3) := by decide +kernel
theorem dX8_darkest_83 : decode cX8_darkest 83 = .ok (.goto (-58), 3) := by decide +kernel
theorem dX8_darkest_86 : decode cX8_darkest 86 = .ok (.aload_n 0, 1) := by decide +kernel
theorem dX8_darkest_87 : decode cX8_darkest 87 = .ok (.iconst (-1), 1) := by decide +kernel
theorem dX8_darkest_88 : decode cX8_darkest 88 = .ok (.putfield 38, 3) := by decide +kernel
theorem dX8_darkest_91 : decode cX8_darkest 91 = .ok (.iload_n 1, 1) := by decide +kernel
theorem dX8_darkest_92 : decode cX8_darkest 92 = .ok (.ifCond .eq 9, 3) := by decide +kernel
theorem dX8_darkest_95 : decode cX8_darkest 95 = .ok (.iload_n 2, 1) := by decide +kernel
theorem dX8_darkest_96 : decode cX8_darkest 96 = .ok (.bipush (-4), 2) := by decide +kernel
theorem dX8_darkest_98 : decode cX8_darkest 98 = .ok (.if_icmp .ne 7, 3) := by decide +kernel
theorem dX8_darkest_101 : decode cX8_darkest 101 = .ok (.iload_n 2, 1) := by decide +kernel
theorem dX8_darkest_102 : decode cX8_darkest 102 = .ok (.goto 4, 3) := by decide +kernel
theorem dX8_darkest_105 : decode cX8_darkest 105 = .ok (.iload_n 3, 1) := by decide +kernel
theorem dX8_darkest_106 : decode cX8_darkest 106 = .ok (.ireturn, 1) := by decide +kernel
theorem dX8_holdsBy_0 : decode cX8_holdsBy 0 = .ok (.aload_n 1, 1) := by decide +kernel
theorem dX8_holdsBy_1 : decode cX8_holdsBy 1 = .ok (.aload_n 0, 1) := by decide +kernel
theorem dX8_holdsBy_2 : decode cX8_holdsBy 2 = .ok (.getfield 16, 3) := by decide +kernel
theorem dX8_holdsBy_5 : decode cX8_holdsBy 5 = .ok (.invokestatic 196, 3) := by decide +kernel
theorem dX8_holdsBy_8 : decode cX8_holdsBy 8 = .ok (.iconst 0, 1) := by decide +kernel
theorem dX8_holdsBy_9 : decode cX8_holdsBy 9 = .ok (.istore_n 3, 1) := by decide +kernel
theorem dX8_holdsBy_10 : decode cX8_holdsBy 10 = .ok (.iload_n 3, 1) := by decide +kernel
theorem dX8_holdsBy_11 : decode cX8_holdsBy 11 = .ok (.aload_n 0, 1) := by decide +kernel
theorem dX8_holdsBy_12 : decode cX8_holdsBy 12 = .ok (.getfield 16, 3) := by decide +kernel
theorem dX8_holdsBy_15 : decode cX8_holdsBy 15 = .ok (.iconst 0, 1) := by decide +kernel
theorem dX8_holdsBy_16 : decode cX8_holdsBy 16 = .ok (.iaload, 1) := by decide +kernel
theorem dX8_holdsBy_17 : decode cX8_holdsBy 17 = .ok (.if_icmp .ge 46, 3) := by decide +kernel
theorem dX8_holdsBy_20 : decode cX8_holdsBy 20 = .ok (.aload_n 0, 1) := by decide +kernel
theorem dX8_holdsBy_21 : decode cX8_holdsBy 21 = .ok (.getfield 16, 3) := by decide +kernel
theorem dX8_holdsBy_24 : decode cX8_holdsBy 24 = .ok (.bipush 6, 2) := by decide +kernel
theorem dX8_holdsBy_26 : decode cX8_holdsBy 26 = .ok (.bipush 6, 2) := by decide +kernel
theorem dX8_holdsBy_28 : decode cX8_holdsBy 28 = .ok (.iload_n 3, 1) := by decide +kernel
theorem dX8_holdsBy_29 : decode cX8_holdsBy 29 = .ok (.imul, 1) := by decide +kernel
theorem dX8_holdsBy_30 : decode cX8_holdsBy 30 = .ok (.iadd, 1) := by decide +kernel
theorem dX8_holdsBy_31 : decode cX8_holdsBy 31 = .ok (.iload_n 2, 1) := by decide +kernel
theorem dX8_holdsBy_32 : decode cX8_holdsBy 32 = .ok (.iload_n 3, 1) := by decide +kernel
theorem dX8_holdsBy_33 : decode cX8_holdsBy 33 = .ok (.ishr, 1) := by decide +kernel
theorem dX8_holdsBy_34 : decode cX8_holdsBy 34 = .ok (.iconst 1, 1) := by decide +kernel
theorem dX8_holdsBy_35 : decode cX8_holdsBy 35 = .ok (.iand, 1) := by decide +kernel
theorem dX8_holdsBy_36 : decode cX8_holdsBy 36 = .ok (.iconst 1, 1) := by decide +kernel
theorem dX8_holdsBy_37 : decode cX8_holdsBy 37 = .ok (.if_icmp .ne 7, 3) := by decide +kernel
theorem dX8_holdsBy_40 : decode cX8_holdsBy 40 = .ok (.iconst 1, 1) := by decide +kernel
theorem dX8_holdsBy_41 : decode cX8_holdsBy 41 = .ok (.goto 15, 3) := by decide +kernel
theorem dX8_holdsBy_44 : decode cX8_holdsBy 44 = .ok (.aload_n 0, 1) := by decide +kernel
theorem dX8_holdsBy_45 : decode cX8_holdsBy 45 = .ok (.getfield 16, 3) := by decide +kernel
theorem dX8_holdsBy_48 : decode cX8_holdsBy 48 = .ok (.bipush 6, 2) := by decide +kernel
theorem dX8_holdsBy_50 : decode cX8_holdsBy 50 = .ok (.bipush 6, 2) := by decide +kernel
theorem dX8_holdsBy_52 : decode cX8_holdsBy 52 = .ok (.iload_n 3, 1) := by decide +kernel
theorem dX8_holdsBy_53 : decode cX8_holdsBy 53 = .ok (.imul, 1) := by decide +kernel
theorem dX8_holdsBy_54 : decode cX8_holdsBy 54 = .ok (.iadd, 1) := by decide +kernel
theorem dX8_holdsBy_55 : decode cX8_holdsBy 55 = .ok (.iaload, 1) := by decide +kernel
theorem dX8_holdsBy_56 : decode cX8_holdsBy 56 = .ok (.iastore, 1) := by decide +kernel
theorem dX8_holdsBy_57 : decode cX8_holdsBy 57 = .ok (.iinc 3 1, 3) := by decide +kernel
theorem dX8_holdsBy_60 : decode cX8_holdsBy 60 = .ok (.goto (-50), 3) := by decide +kernel
theorem dX8_holdsBy_63 : decode cX8_holdsBy 63 = .ok (.iconst 0, 1) := by decide +kernel
theorem dX8_holdsBy_64 : decode cX8_holdsBy 64 = .ok (.istore_n 3, 1) := by decide +kernel
theorem dX8_holdsBy_65 : decode cX8_holdsBy 65 = .ok (.iload_n 3, 1) := by decide +kernel
theorem dX8_holdsBy_66 : decode cX8_holdsBy 66 = .ok (.bipush 60, 2) := by decide +kernel
theorem dX8_holdsBy_68 : decode cX8_holdsBy 68 = .ok (.if_icmp .ge 17, 3) := by decide +kernel
theorem dX8_holdsBy_71 : decode cX8_holdsBy 71 = .ok (.aload_n 0, 1) := by decide +kernel
theorem dX8_holdsBy_72 : decode cX8_holdsBy 72 = .ok (.aload_n 0, 1) := by decide +kernel
theorem dX8_holdsBy_73 : decode cX8_holdsBy 73 = .ok (.getfield 16, 3) := by decide +kernel
theorem dX8_holdsBy_76 : decode cX8_holdsBy 76 = .ok (.invokevirtual 187, 3) := by decide +kernel
theorem dX8_holdsBy_79 : decode cX8_holdsBy 79 = .ok (.iinc 3 1, 3) := by decide +kernel
theorem dX8_holdsBy_82 : decode cX8_holdsBy 82 = .ok (.goto (-17), 3) := by decide +kernel
theorem dX8_holdsBy_85 : decode cX8_holdsBy 85 = .ok (.aload_n 0, 1) := by decide +kernel
theorem dX8_holdsBy_86 : decode cX8_holdsBy 86 = .ok (.getfield 16, 3) := by decide +kernel
theorem dX8_holdsBy_89 : decode cX8_holdsBy 89 = .ok (.invokestatic 151, 3) := by decide +kernel
theorem dX8_holdsBy_92 : decode cX8_holdsBy 92 = .ok (.ifCond .ne 7, 3) := by decide +kernel
theorem dX8_holdsBy_95 : decode cX8_holdsBy 95 = .ok (.iconst 1, 1) := by decide +kernel
theorem dX8_holdsBy_96 : decode cX8_holdsBy 96 = .ok (.goto 4, 3) := by decide +kernel
theorem dX8_holdsBy_99 : decode cX8_holdsBy 99 = .ok (.iconst 0, 1) := by decide +kernel
theorem dX8_holdsBy_100 : decode cX8_holdsBy 100 = .ok (.ireturn, 1) := by decide +kernel
theorem dX8_holds_0 : decode cX8_holds 0 = .ok (.aload_n 0, 1) := by decide +kernel
theorem dX8_holds_1 : decode cX8_holds 1 = .ok (.iconst 0, 1) := by decide +kernel
theorem dX8_holds_2 : decode cX8_holds 2 = .ok (.putfield 48, 3) := by decide +kernel
theorem dX8_holds_5 : decode cX8_holds 5 = .ok (.iload_n 1, 1) := by decide +kernel
theorem dX8_holds_6 : decode cX8_holds 6 = .ok (.i2l, 1) := by decide +kernel
theorem dX8_holds_7 : decode cX8_holds 7 = .ok (.lconst 0, 1) := by decide +kernel
theorem dX8_holds_8 : decode cX8_holds 8 = .ok (.iconst 1, 1) := by decide +kernel
theorem dX8_holds_9 : decode cX8_holds 9 = .ok (.aload_n 0, 1) := by decide +kernel
theorem dX8_holds_10 : decode cX8_holds 10 = .ok (.getfield 7, 3) := by decide +kernel
theorem dX8_holds_13 : decode cX8_holds 13 = .ok (.iconst 0, 1) := by decide +kernel
theorem dX8_holds_14 : decode cX8_holds 14 = .ok (.iaload, 1) := by decide +kernel
theorem dX8_holds_15 : decode cX8_holds 15 = .ok (.ishl, 1) := by decide +kernel
theorem dX8_holds_16 : decode cX8_holds 16 = .ok (.iconst 1, 1) := by decide +kernel
theorem dX8_holds_17 : decode cX8_holds 17 = .ok (.isub, 1) := by decide +kernel
theorem dX8_holds_18 : decode cX8_holds 18 = .ok (.i2l, 1) := by decide +kernel
theorem dX8_holds_19 : decode cX8_holds 19 = .ok (.invokestatic 51, 3) := by decide +kernel
theorem dX8_holds_22 : decode cX8_holds 22 = .ok (.ifCond .ne 5, 3) := by decide +kernel
theorem dX8_holds_25 : decode cX8_holds 25 = .ok (.iconst (-1), 1) := by decide +kernel
theorem dX8_holds_26 : decode cX8_holds 26 = .ok (.ireturn, 1) := by decide +kernel
theorem dX8_holds_27 : decode cX8_holds 27 = .ok (.aload_n 0, 1) := by decide +kernel
theorem dX8_holds_28 : decode cX8_holds 28 = .ok (.aload_n 0, 1) := by decide +kernel
theorem dX8_holds_29 : decode cX8_holds 29 = .ok (.getfield 7, 3) := by decide +kernel
theorem dX8_holds_32 : decode cX8_holds 32 = .ok (.iload_n 1, 1) := by decide +kernel
theorem dX8_holds_33 : decode cX8_holds 33 = .ok (.invokevirtual 207, 3) := by decide +kernel
theorem dX8_holds_36 : decode cX8_holds 36 = .ok (.ifCond .eq 7, 3) := by decide +kernel
theorem dX8_holds_39 : decode cX8_holds 39 = .ok (.iconst 1, 1) := by decide +kernel
theorem dX8_holds_40 : decode cX8_holds 40 = .ok (.goto 4, 3) := by decide +kernel
theorem dX8_holds_43 : decode cX8_holds 43 = .ok (.iconst 0, 1) := by decide +kernel
theorem dX8_holds_44 : decode cX8_holds 44 = .ok (.ireturn, 1) := by decide +kernel
theorem dX8_holdsAll_0 : decode cX8_holdsAll 0 = .ok (.iconst 1, 1) := by decide +kernel
theorem dX8_holdsAll_1 : decode cX8_holdsAll 1 = .ok (.istore_n 3, 1) := by decide +kernel
theorem dX8_holdsAll_2 : decode cX8_holdsAll 2 = .ok (.iconst 0, 1) := by decide +kernel
theorem dX8_holdsAll_3 : decode cX8_holdsAll 3 = .ok (.istore 4, 2) := by decide +kernel
theorem dX8_holdsAll_5 : decode cX8_holdsAll 5 = .ok (.iload 4, 2) := by decide +kernel
theorem dX8_holdsAll_7 : decode cX8_holdsAll 7 = .ok (.iconst 1, 1) := by decide +kernel
theorem dX8_holdsAll_8 : decode cX8_holdsAll 8 = .ok (.aload_n 1, 1) := by decide +kernel
theorem dX8_holdsAll_9 : decode cX8_holdsAll 9 = .ok (.iconst 0, 1) := by decide +kernel
theorem dX8_holdsAll_10 : decode cX8_holdsAll 10 = .ok (.iaload, 1) := by decide +kernel
theorem dX8_holdsAll_11 : decode cX8_holdsAll 11 = .ok (.ishl, 1) := by decide +kernel
theorem dX8_holdsAll_12 : decode cX8_holdsAll 12 = .ok (.if_icmp .ge 38, 3) := by decide +kernel
theorem dX8_holdsAll_15 : decode cX8_holdsAll 15 = .ok (.iload_n 3, 1) := by decide +kernel
theorem dX8_holdsAll_16 : decode cX8_holdsAll 16 = .ok (.ifCond .eq 34, 3) := by decide +kernel
theorem dX8_holdsAll_19 : decode cX8_holdsAll 19 = .ok (.iload 4, 2) := by decide +kernel
theorem dX8_holdsAll_21 : decode cX8_holdsAll 21 = .ok (.invokestatic 210, 3) := by decide +kernel
theorem dX8_holdsAll_24 : decode cX8_holdsAll 24 = .ok (.iload_n 2, 1) := by decide +kernel
theorem dX8_holdsAll_25 : decode cX8_holdsAll 25 = .ok (.if_icmp .ne 13, 3) := by decide +kernel
theorem dX8_holdsAll_28 : decode cX8_holdsAll 28 = .ok (.aload_n 0, 1) := by decide +kernel
theorem dX8_holdsAll_29 : decode cX8_holdsAll 29 = .ok (.aload_n 1, 1) := by decide +kernel
theorem dX8_holdsAll_30 : decode cX8_holdsAll 30 = .ok (.iload 4, 2) := by decide +kernel
theorem dX8_holdsAll_32 : decode cX8_holdsAll 32 = .ok (.invokevirtual 207, 3) := by decide +kernel
theorem dX8_holdsAll_35 : decode cX8_holdsAll 35 = .ok (.ifCond .eq 7, 3) := by decide +kernel
theorem dX8_holdsAll_38 : decode cX8_holdsAll 38 = .ok (.iconst 1, 1) := by decide +kernel
theorem dX8_holdsAll_39 : decode cX8_holdsAll 39 = .ok (.goto 4, 3) := by decide +kernel
theorem dX8_holdsAll_42 : decode cX8_holdsAll 42 = .ok (.iconst 0, 1) := by decide +kernel
theorem dX8_holdsAll_43 : decode cX8_holdsAll 43 = .ok (.istore_n 3, 1) := by decide +kernel
theorem dX8_holdsAll_44 : decode cX8_holdsAll 44 = .ok (.iinc 4 1, 3) := by decide +kernel
theorem dX8_holdsAll_47 : decode cX8_holdsAll 47 = .ok (.goto (-42), 3) := by decide +kernel
theorem dX8_holdsAll_50 : decode cX8_holdsAll 50 = .ok (.iload_n 3, 1) := by decide +kernel
theorem dX8_holdsAll_51 : decode cX8_holdsAll 51 = .ok (.ireturn, 1) := by decide +kernel
theorem dX8_bears_0 : decode cX8_bears 0 = .ok (.aload_n 0, 1) := by decide +kernel
theorem dX8_bears_1 : decode cX8_bears 1 = .ok (.iconst 0, 1) := by decide +kernel
theorem dX8_bears_2 : decode cX8_bears 2 = .ok (.putfield 48, 3) := by decide +kernel
theorem dX8_bears_5 : decode cX8_bears 5 = .ok (.iconst 0, 1) := by decide +kernel
theorem dX8_bears_6 : decode cX8_bears 6 = .ok (.istore_n 1, 1) := by decide +kernel
theorem dX8_bears_7 : decode cX8_bears 7 = .ok (.iload_n 1, 1) := by decide +kernel
theorem dX8_bears_8 : decode cX8_bears 8 = .ok (.iconst 3, 1) := by decide +kernel
theorem dX8_bears_9 : decode cX8_bears 9 = .ok (.if_icmp .ge 21, 3) := by decide +kernel
theorem dX8_bears_12 : decode cX8_bears 12 = .ok (.aload_n 0, 1) := by decide +kernel
theorem dX8_bears_13 : decode cX8_bears 13 = .ok (.aload_n 0, 1) := by decide +kernel
theorem dX8_bears_14 : decode cX8_bears 14 = .ok (.getfield 7, 3) := by decide +kernel
theorem dX8_bears_17 : decode cX8_bears 17 = .ok (.iload_n 1, 1) := by decide +kernel
theorem dX8_bears_18 : decode cX8_bears 18 = .ok (.invokevirtual 213, 3) := by decide +kernel
theorem dX8_bears_21 : decode cX8_bears 21 = .ok (.ifCond .eq 9, 3) := by decide +kernel
theorem dX8_bears_24 : decode cX8_bears 24 = .ok (.iinc 1 1, 3) := by decide +kernel
theorem dX8_bears_27 : decode cX8_bears 27 = .ok (.goto (-20), 3) := by decide +kernel
theorem dX8_bears_30 : decode cX8_bears 30 = .ok (.iload_n 1, 1) := by decide +kernel
theorem dX8_bears_31 : decode cX8_bears 31 = .ok (.ifCond .ne 8, 3) := by decide +kernel
theorem dX8_bears_34 : decode cX8_bears 34 = .ok (.bipush (-4), 2) := by decide +kernel
theorem dX8_bears_36 : decode cX8_bears 36 = .ok (.goto 6, 3) := by decide +kernel
theorem dX8_bears_39 : decode cX8_bears 39 = .ok (.iload_n 1, 1) := by decide +kernel
theorem dX8_bears_40 : decode cX8_bears 40 = .ok (.iconst 1, 1) := by decide +kernel
theorem dX8_bears_41 : decode cX8_bears 41 = .ok (.isub, 1) := by decide +kernel
theorem dX8_bears_42 : decode cX8_bears 42 = .ok (.ireturn, 1) := by decide +kernel
theorem dX8_worst_0 : decode cX8_worst 0 = .ok (.aload_n 0, 1) := by decide +kernel
theorem dX8_worst_1 : decode cX8_worst 1 = .ok (.iconst 0, 1) := by decide +kernel
theorem dX8_worst_2 : decode cX8_worst 2 = .ok (.putfield 48, 3) := by decide +kernel
theorem dX8_worst_5 : decode cX8_worst 5 = .ok (.iload_n 1, 1) := by decide +kernel
theorem dX8_worst_6 : decode cX8_worst 6 = .ok (.i2l, 1) := by decide +kernel
theorem dX8_worst_7 : decode cX8_worst 7 = .ok (.lconst 0, 1) := by decide +kernel
theorem dX8_worst_8 : decode cX8_worst 8 = .ok (.lconst 1, 1) := by decide +kernel
theorem dX8_worst_9 : decode cX8_worst 9 = .ok (.invokestatic 51, 3) := by decide +kernel
theorem dX8_worst_12 : decode cX8_worst 12 = .ok (.ifCond .ne 5, 3) := by decide +kernel
theorem dX8_worst_15 : decode cX8_worst 15 = .ok (.iconst (-1), 1) := by decide +kernel
theorem dX8_worst_16 : decode cX8_worst 16 = .ok (.ireturn, 1) := by decide +kernel
theorem dX8_worst_17 : decode cX8_worst 17 = .ok (.bipush (-4), 2) := by decide +kernel
theorem dX8_worst_19 : decode cX8_worst 19 = .ok (.istore_n 2, 1) := by decide +kernel
theorem dX8_worst_20 : decode cX8_worst 20 = .ok (.iconst (-1), 1) := by decide +kernel
theorem dX8_worst_21 : decode cX8_worst 21 = .ok (.istore_n 3, 1) := by decide +kernel
theorem dX8_worst_22 : decode cX8_worst 22 = .ok (.iconst 0, 1) := by decide +kernel
theorem dX8_worst_23 : decode cX8_worst 23 = .ok (.istore 4, 2) := by decide +kernel
theorem dX8_worst_25 : decode cX8_worst 25 = .ok (.iload 4, 2) := by decide +kernel
theorem dX8_worst_27 : decode cX8_worst 27 = .ok (.aload_n 0, 1) := by decide +kernel
theorem dX8_worst_28 : decode cX8_worst 28 = .ok (.getfield 7, 3) := by decide +kernel
theorem dX8_worst_31 : decode cX8_worst 31 = .ok (.iconst 0, 1) := by decide +kernel
theorem dX8_worst_32 : decode cX8_worst 32 = .ok (.iaload, 1) := by decide +kernel
theorem dX8_worst_33 : decode cX8_worst 33 = .ok (.if_icmp .ge 108, 3) := by decide +kernel
theorem dX8_worst_36 : decode cX8_worst 36 = .ok (.iconst 0, 1) := by decide +kernel
theorem dX8_worst_37 : decode cX8_worst 37 = .ok (.istore 5, 2) := by decide +kernel
theorem dX8_worst_39 : decode cX8_worst 39 = .ok (.iload 5, 2) := by decide +kernel
theorem dX8_worst_41 : decode cX8_worst 41 = .ok (.aload_n 0, 1) := by decide +kernel
theorem dX8_worst_42 : decode cX8_worst 42 = .ok (.getfield 7, 3) := by decide +kernel
theorem dX8_worst_45 : decode cX8_worst 45 = .ok (.iconst 0, 1) := by decide +kernel
theorem dX8_worst_46 : decode cX8_worst 46 = .ok (.iaload, 1) := by decide +kernel
theorem dX8_worst_47 : decode cX8_worst 47 = .ok (.if_icmp .ge 88, 3) := by decide +kernel
theorem dX8_worst_50 : decode cX8_worst 50 = .ok (.iload 4, 2) := by decide +kernel
theorem dX8_worst_52 : decode cX8_worst 52 = .ok (.iload 5, 2) := by decide +kernel
theorem dX8_worst_54 : decode cX8_worst 54 = .ok (.if_icmp .eq 75, 3) := by decide +kernel
theorem dX8_worst_57 : decode cX8_worst 57 = .ok (.aload_n 0, 1) := by decide +kernel
theorem dX8_worst_58 : decode cX8_worst 58 = .ok (.getfield 7, 3) := by decide +kernel
theorem dX8_worst_61 : decode cX8_worst 61 = .ok (.aload_n 0, 1) := by decide +kernel
theorem dX8_worst_62 : decode cX8_worst 62 = .ok (.getfield 13, 3) := by decide +kernel
theorem dX8_worst_65 : decode cX8_worst 65 = .ok (.invokestatic 196, 3) := by decide +kernel
theorem dX8_worst_68 : decode cX8_worst 68 = .ok (.aload_n 0, 1) := by decide +kernel
theorem dX8_worst_69 : decode cX8_worst 69 = .ok (.getfield 13, 3) := by decide +kernel
theorem dX8_worst_72 : decode cX8_worst 72 = .ok (.bipush 60, 2) := by decide +kernel
theorem dX8_worst_74 : decode cX8_worst 74 = .ok (.bipush 9, 2) := by decide +kernel
theorem dX8_worst_76 : decode cX8_worst 76 = .ok (.iload 4, 2) := by decide +kernel
theorem dX8_worst_78 : decode cX8_worst 78 = .ok (.imul, 1) := by decide +kernel
theorem dX8_worst_79 : decode cX8_worst 79 = .ok (.iadd, 1) := by decide +kernel
theorem dX8_worst_80 : decode cX8_worst 80 = .ok (.iload 5, 2) := by decide +kernel
theorem dX8_worst_82 : decode cX8_worst 82 = .ok (.iadd, 1) := by decide +kernel
theorem dX8_worst_83 : decode cX8_worst 83 = .ok (.bipush 9, 2) := by decide +kernel
theorem dX8_worst_85 : decode cX8_worst 85 = .ok (.iastore, 1) := by decide +kernel
theorem dX8_worst_86 : decode cX8_worst 86 = .ok (.aload_n 0, 1) := by decide +kernel
theorem dX8_worst_87 : decode cX8_worst 87 = .ok (.aload_n 0, 1) := by decide +kernel
theorem dX8_worst_88 : decode cX8_worst 88 = .ok (.getfield 13, 3) := by decide +kernel
theorem dX8_worst_91 : decode cX8_worst 91 = .ok (.iconst (-1), 1) := by decide +kernel
theorem dX8_worst_92 : decode cX8_worst 92 = .ok (.invokevirtual 203, 3) := by decide +kernel
theorem dX8_worst_95 : decode cX8_worst 95 = .ok (.istore 6, 2) := by decide +kernel
theorem dX8_worst_97 : decode cX8_worst 97 = .ok (.iload 6, 2) := by decide +kernel
theorem dX8_worst_99 : decode cX8_worst 99 = .ok (.iload_n 3, 1) := by decide +kernel
theorem dX8_worst_100 : decode cX8_worst 100 = .ok (.if_icmp .le 14, 3) := by decide +kernel
theorem dX8_worst_103 : decode cX8_worst 103 = .ok (.bipush 10, 2) := by decide +kernel
theorem dX8_worst_105 : decode cX8_worst 105 = .ok (.iload 4, 2) := by decide +kernel
theorem dX8_worst_107 : decode cX8_worst 107 = .ok (.imul, 1) := by decide +kernel
theorem dX8_worst_108 : decode cX8_worst 108 = .ok (.iload 5, 2) := by decide +kernel
theorem dX8_worst_110 : decode cX8_worst 110 = .ok (.iadd, 1) := by decide +kernel
theorem dX8_worst_111 : decode cX8_worst 111 = .ok (.goto 4, 3) := by decide +kernel
theorem dX8_worst_114 : decode cX8_worst 114 = .ok (.iload_n 2, 1) := by decide +kernel
theorem dX8_worst_115 : decode cX8_worst 115 = .ok (.istore_n 2, 1) := by decide +kernel
theorem dX8_worst_116 : decode cX8_worst 116 = .ok (.iload 6, 2) := by decide +kernel
theorem dX8_worst_118 : decode cX8_worst 118 = .ok (.iload_n 3, 1) := by decide +kernel
theorem dX8_worst_119 : decode cX8_worst 119 = .ok (.if_icmp .le 8, 3) := by decide +kernel
theorem dX8_worst_122 : decode cX8_worst 122 = .ok (.iload 6, 2) := by decide +kernel
theorem dX8_worst_124 : decode cX8_worst 124 = .ok (.goto 4, 3) := by decide +kernel
theorem dX8_worst_127 : decode cX8_worst 127 = .ok (.iload_n 3, 1) := by decide +kernel
theorem dX8_worst_128 : decode cX8_worst 128 = .ok (.istore_n 3, 1) := by decide +kernel
theorem dX8_worst_129 : decode cX8_worst 129 = .ok (.iinc 5 1, 3) := by decide +kernel
theorem dX8_worst_132 : decode cX8_worst 132 = .ok (.goto (-93), 3) := by decide +kernel
theorem dX8_worst_135 : decode cX8_worst 135 = .ok (.iinc 4 1, 3) := by decide +kernel
theorem dX8_worst_138 : decode cX8_worst 138 = .ok (.goto (-113), 3) := by decide +kernel
theorem dX8_worst_141 : decode cX8_worst 141 = .ok (.iload_n 1, 1) := by decide +kernel
theorem dX8_worst_142 : decode cX8_worst 142 = .ok (.ifCond .eq 9, 3) := by decide +kernel
theorem dX8_worst_145 : decode cX8_worst 145 = .ok (.iload_n 2, 1) := by decide +kernel
theorem dX8_worst_146 : decode cX8_worst 146 = .ok (.bipush (-4), 2) := by decide +kernel
theorem dX8_worst_148 : decode cX8_worst 148 = .ok (.if_icmp .ne 7, 3) := by decide +kernel
theorem dX8_worst_151 : decode cX8_worst 151 = .ok (.iload_n 2, 1) := by decide +kernel
theorem dX8_worst_152 : decode cX8_worst 152 = .ok (.goto 4, 3) := by decide +kernel
theorem dX8_worst_155 : decode cX8_worst 155 = .ok (.iload_n 3, 1) := by decide +kernel
theorem dX8_worst_156 : decode cX8_worst 156 = .ok (.ireturn, 1) := by decide +kernel
theorem dX8_least_0 : decode cX8_least 0 = .ok (.aload_n 0, 1) := by decide +kernel
theorem dX8_least_1 : decode cX8_least 1 = .ok (.iconst 0, 1) := by decide +kernel
theorem dX8_least_2 : decode cX8_least 2 = .ok (.putfield 48, 3) := by decide +kernel
theorem dX8_least_5 : decode cX8_least 5 = .ok (.iload_n 1, 1) := by decide +kernel
theorem dX8_least_6 : decode cX8_least 6 = .ok (.i2l, 1) := by decide +kernel
theorem dX8_least_7 : decode cX8_least 7 = .ok (.lconst 0, 1) := by decide +kernel
theorem dX8_least_8 : decode cX8_least 8 = .ok (.ldc2_w 88, 3) := by decide +kernel
theorem dX8_least_11 : decode cX8_least 11 = .ok (.invokestatic 51, 3) := by decide +kernel
theorem dX8_least_14 : decode cX8_least 14 = .ok (.ifCond .eq 15, 3) := by decide +kernel
theorem dX8_least_17 : decode cX8_least 17 = .ok (.iload_n 2, 1) := by decide +kernel
theorem dX8_least_18 : decode cX8_least 18 = .ok (.i2l, 1) := by decide +kernel
theorem dX8_least_19 : decode cX8_least 19 = .ok (.lconst 0, 1) := by decide +kernel
theorem dX8_least_20 : decode cX8_least 20 = .ok (.ldc2_w 191, 3) := by decide +kernel
theorem dX8_least_23 : decode cX8_least 23 = .ok (.invokestatic 51, 3) := by decide +kernel
theorem dX8_least_26 : decode cX8_least 26 = .ok (.ifCond .ne 5, 3) := by decide +kernel
theorem dX8_least_29 : decode cX8_least 29 = .ok (.iconst (-1), 1) := by decide +kernel
theorem dX8_least_30 : decode cX8_least 30 = .ok (.ireturn, 1) := by decide +kernel
theorem dX8_least_31 : decode cX8_least 31 = .ok (.iconst 0, 1) := by decide +kernel
theorem dX8_least_32 : decode cX8_least 32 = .ok (.istore_n 3, 1) := by decide +kernel
theorem dX8_least_33 : decode cX8_least 33 = .ok (.iload_n 3, 1) := by decide +kernel
theorem dX8_least_34 : decode cX8_least 34 = .ok (.bipush 10, 2) := by decide +kernel
theorem dX8_least_36 : decode cX8_least 36 = .ok (.if_icmp .ge 115, 3) := by decide +kernel
theorem dX8_least_39 : decode cX8_least 39 = .ok (.aload_n 0, 1) := by decide +kernel
theorem dX8_least_40 : decode cX8_least 40 = .ok (.getfield 7, 3) := by decide +kernel
theorem dX8_least_43 : decode cX8_least 43 = .ok (.aload_n 0, 1) := by decide +kernel
theorem dX8_least_44 : decode cX8_least 44 = .ok (.getfield 13, 3) := by decide +kernel
theorem dX8_least_47 : decode cX8_least 47 = .ok (.invokestatic 196, 3) := by decide +kernel
theorem dX8_least_50 : decode cX8_least 50 = .ok (.iconst 0, 1) := by decide +kernel
theorem dX8_least_51 : decode cX8_least 51 = .ok (.istore 4, 2) := by decide +kernel
theorem dX8_least_53 : decode cX8_least 53 = .ok (.iload 4, 2) := by decide +kernel
theorem dX8_least_55 : decode cX8_least 55 = .ok (.aload_n 0, 1) := by decide +kernel
theorem dX8_least_56 : decode cX8_least 56 = .ok (.getfield 7, 3) := by decide +kernel
theorem dX8_least_59 : decode cX8_least 59 = .ok (.iconst 3, 1) := by decide +kernel
theorem dX8_least_60 : decode cX8_least 60 = .ok (.iaload, 1) := by decide +kernel
theorem dX8_least_61 : decode cX8_least 61 = .ok (.if_icmp .ge 25, 3) := by decide +kernel
theorem dX8_least_64 : decode cX8_least 64 = .ok (.aload_n 0, 1) := by decide +kernel
theorem dX8_least_65 : decode cX8_least 65 = .ok (.getfield 13, 3) := by decide +kernel
theorem dX8_least_68 : decode cX8_least 68 = .ok (.sipush 1761, 3) := by decide +kernel
theorem dX8_least_71 : decode cX8_least 71 = .ok (.iconst 4, 1) := by decide +kernel
theorem dX8_least_72 : decode cX8_least 72 = .ok (.iload 4, 2) := by decide +kernel
theorem dX8_least_74 : decode cX8_least 74 = .ok (.imul, 1) := by decide +kernel
theorem dX8_least_75 : decode cX8_least 75 = .ok (.iadd, 1) := by decide +kernel
theorem dX8_least_76 : decode cX8_least 76 = .ok (.iconst 1, 1) := by decide +kernel
theorem dX8_least_77 : decode cX8_least 77 = .ok (.iadd, 1) := by decide +kernel
theorem dX8_least_78 : decode cX8_least 78 = .ok (.iload_n 3, 1) := by decide +kernel
theorem dX8_least_79 : decode cX8_least 79 = .ok (.iastore, 1) := by decide +kernel
theorem dX8_least_80 : decode cX8_least 80 = .ok (.iinc 4 1, 3) := by decide +kernel
theorem dX8_least_83 : decode cX8_least 83 = .ok (.goto (-30), 3) := by decide +kernel
theorem dX8_least_86 : decode cX8_least 86 = .ok (.aload_n 0, 1) := by decide +kernel
theorem dX8_least_87 : decode cX8_least 87 = .ok (.aload_n 0, 1) := by decide +kernel
theorem dX8_least_88 : decode cX8_least 88 = .ok (.getfield 13, 3) := by decide +kernel
theorem dX8_least_91 : decode cX8_least 91 = .ok (.iconst (-1), 1) := by decide +kernel
theorem dX8_least_92 : decode cX8_least 92 = .ok (.invokevirtual 203, 3) := by decide +kernel
theorem dX8_least_95 : decode cX8_least 95 = .ok (.iload_n 2, 1) := by decide +kernel
theorem dX8_least_96 : decode cX8_least 96 = .ok (.if_icmp .gt 7, 3) := by decide +kernel
theorem dX8_least_99 : decode cX8_least 99 = .ok (.iconst 1, 1) := by decide +kernel
theorem dX8_least_100 : decode cX8_least 100 = .ok (.goto 4, 3) := by decide +kernel
theorem dX8_least_103 : decode cX8_least 103 = .ok (.iconst 0, 1) := by decide +kernel
theorem dX8_least_104 : decode cX8_least 104 = .ok (.istore 4, 2) := by decide +kernel
theorem dX8_least_106 : decode cX8_least 106 = .ok (.iconst 0, 1) := by decide +kernel
theorem dX8_least_107 : decode cX8_least 107 = .ok (.istore 5, 2) := by decide +kernel
theorem dX8_least_109 : decode cX8_least 109 = .ok (.iload 5, 2) := by decide +kernel
theorem dX8_least_111 : decode cX8_least 111 = .ok (.iload_n 1, 1) := by decide +kernel
theorem dX8_least_112 : decode cX8_least 112 = .ok (.if_icmp .gt 26, 3) := by decide +kernel
theorem dX8_least_115 : decode cX8_least 115 = .ok (.iload 4, 2) := by decide +kernel
theorem dX8_least_117 : decode cX8_least 117 = .ok (.ifCond .eq 21, 3) := by decide +kernel
theorem dX8_least_120 : decode cX8_least 120 = .ok (.aload_n 0, 1) := by decide +kernel
theorem dX8_least_121 : decode cX8_least 121 = .ok (.aload_n 0, 1) := by decide +kernel
theorem dX8_least_122 : decode cX8_least 122 = .ok (.getfield 13, 3) := by decide +kernel
theorem dX8_least_125 : decode cX8_least 125 = .ok (.iload 5, 2) := by decide +kernel
theorem dX8_least_127 : decode cX8_least 127 = .ok (.invokevirtual 213, 3) := by decide +kernel
theorem dX8_least_130 : decode cX8_least 130 = .ok (.istore 4, 2) := by decide +kernel
theorem dX8_least_132 : decode cX8_least 132 = .ok (.iinc 5 1, 3) := by decide +kernel
theorem dX8_least_135 : decode cX8_least 135 = .ok (.goto (-26), 3) := by decide +kernel
theorem dX8_least_138 : decode cX8_least 138 = .ok (.iload 4, 2) := by decide +kernel
theorem dX8_least_140 : decode cX8_least 140 = .ok (.ifCond .eq 5, 3) := by decide +kernel
theorem dX8_least_143 : decode cX8_least 143 = .ok (.iload_n 3, 1) := by decide +kernel
theorem dX8_least_144 : decode cX8_least 144 = .ok (.ireturn, 1) := by decide +kernel
theorem dX8_least_145 : decode cX8_least 145 = .ok (.iinc 3 1, 3) := by decide +kernel
theorem dX8_least_148 : decode cX8_least 148 = .ok (.goto (-115), 3) := by decide +kernel
theorem dX8_least_151 : decode cX8_least 151 = .ok (.bipush (-4), 2) := by decide +kernel
theorem dX8_least_153 : decode cX8_least 153 = .ok (.ireturn, 1) := by decide +kernel
theorem dX8_spare_0 : decode cX8_spare 0 = .ok (.aload_n 0, 1) := by decide +kernel
theorem dX8_spare_1 : decode cX8_spare 1 = .ok (.iconst 0, 1) := by decide +kernel
theorem dX8_spare_2 : decode cX8_spare 2 = .ok (.putfield 48, 3) := by decide +kernel
theorem dX8_spare_5 : decode cX8_spare 5 = .ok (.aload_n 0, 1) := by decide +kernel
theorem dX8_spare_6 : decode cX8_spare 6 = .ok (.aload_n 0, 1) := by decide +kernel
theorem dX8_spare_7 : decode cX8_spare 7 = .ok (.getfield 7, 3) := by decide +kernel
theorem dX8_spare_10 : decode cX8_spare 10 = .ok (.bipush 60, 2) := by decide +kernel
theorem dX8_spare_12 : decode cX8_spare 12 = .ok (.invokevirtual 200, 3) := by decide +kernel
theorem dX8_spare_15 : decode cX8_spare 15 = .ok (.iconst 0, 1) := by decide +kernel
theorem dX8_spare_16 : decode cX8_spare 16 = .ok (.istore_n 1, 1) := by decide +kernel
theorem dX8_spare_17 : decode cX8_spare 17 = .ok (.iconst 0, 1) := by decide +kernel
theorem dX8_spare_18 : decode cX8_spare 18 = .ok (.istore_n 2, 1) := by decide +kernel
theorem dX8_spare_19 : decode cX8_spare 19 = .ok (.iload_n 2, 1) := by decide +kernel
theorem dX8_spare_20 : decode cX8_spare 20 = .ok (.bipush 9, 2) := by decide +kernel
theorem dX8_spare_22 : decode cX8_spare 22 = .ok (.if_icmp .ge 46, 3) := by decide +kernel
theorem dX8_spare_25 : decode cX8_spare 25 = .ok (.aload_n 0, 1) := by decide +kernel
theorem dX8_spare_26 : decode cX8_spare 26 = .ok (.getfield 42, 3) := by decide +kernel
theorem dX8_spare_29 : decode cX8_spare 29 = .ok (.iload_n 2, 1) := by decide +kernel
theorem dX8_spare_30 : decode cX8_spare 30 = .ok (.iconst 3, 1) := by decide +kernel
theorem dX8_spare_31 : decode cX8_spare 31 = .ok (.aload_n 0, 1) := by decide +kernel
theorem dX8_spare_32 : decode cX8_spare 32 = .ok (.getfield 16, 3) := by decide +kernel
theorem dX8_spare_35 : decode cX8_spare 35 = .ok (.bipush 6, 2) := by decide +kernel
theorem dX8_spare_37 : decode cX8_spare 37 = .ok (.bipush 6, 2) := by decide +kernel
theorem dX8_spare_39 : decode cX8_spare 39 = .ok (.iload_n 2, 1) := by decide +kernel
theorem dX8_spare_40 : decode cX8_spare 40 = .ok (.imul, 1) := by decide +kernel
theorem dX8_spare_41 : decode cX8_spare 41 = .ok (.iadd, 1) := by decide +kernel
theorem dX8_spare_42 : decode cX8_spare 42 = .ok (.iconst 2, 1) := by decide +kernel
theorem dX8_spare_43 : decode cX8_spare 43 = .ok (.iadd, 1) := by decide +kernel
theorem dX8_spare_44 : decode cX8_spare 44 = .ok (.iaload, 1) := by decide +kernel
theorem dX8_spare_45 : decode cX8_spare 45 = .ok (.imul, 1) := by decide +kernel
theorem dX8_spare_46 : decode cX8_spare 46 = .ok (.aload_n 0, 1) := by decide +kernel
theorem dX8_spare_47 : decode cX8_spare 47 = .ok (.getfield 16, 3) := by decide +kernel
theorem dX8_spare_50 : decode cX8_spare 50 = .ok (.bipush 6, 2) := by decide +kernel
theorem dX8_spare_52 : decode cX8_spare 52 = .ok (.bipush 6, 2) := by decide +kernel
theorem dX8_spare_54 : decode cX8_spare 54 = .ok (.iload_n 2, 1) := by decide +kernel
theorem dX8_spare_55 : decode cX8_spare 55 = .ok (.imul, 1) := by decide +kernel
theorem dX8_spare_56 : decode cX8_spare 56 = .ok (.iadd, 1) := by decide +kernel
theorem dX8_spare_57 : decode cX8_spare 57 = .ok (.iconst 1, 1) := by decide +kernel
theorem dX8_spare_58 : decode cX8_spare 58 = .ok (.iadd, 1) := by decide +kernel
theorem dX8_spare_59 : decode cX8_spare 59 = .ok (.iaload, 1) := by decide +kernel
theorem dX8_spare_60 : decode cX8_spare 60 = .ok (.iadd, 1) := by decide +kernel
theorem dX8_spare_61 : decode cX8_spare 61 = .ok (.iastore, 1) := by decide +kernel
theorem dX8_spare_62 : decode cX8_spare 62 = .ok (.iinc 2 1, 3) := by decide +kernel
theorem dX8_spare_65 : decode cX8_spare 65 = .ok (.goto (-46), 3) := by decide +kernel
theorem dX8_spare_68 : decode cX8_spare 68 = .ok (.iconst 0, 1) := by decide +kernel
theorem dX8_spare_69 : decode cX8_spare 69 = .ok (.istore_n 2, 1) := by decide +kernel
theorem dX8_spare_70 : decode cX8_spare 70 = .ok (.iload_n 2, 1) := by decide +kernel
theorem dX8_spare_71 : decode cX8_spare 71 = .ok (.aload_n 0, 1) := by decide +kernel
theorem dX8_spare_72 : decode cX8_spare 72 = .ok (.getfield 7, 3) := by decide +kernel
theorem dX8_spare_75 : decode cX8_spare 75 = .ok (.iconst 3, 1) := by decide +kernel
theorem dX8_spare_76 : decode cX8_spare 76 = .ok (.iaload, 1) := by decide +kernel
theorem dX8_spare_77 : decode cX8_spare 77 = .ok (.if_icmp .ge 179, 3) := by decide +kernel
theorem dX8_spare_80 : decode cX8_spare 80 = .ok (.aload_n 0, 1) := by decide +kernel
theorem dX8_spare_81 : decode cX8_spare 81 = .ok (.getfield 7, 3) := by decide +kernel
theorem dX8_spare_84 : decode cX8_spare 84 = .ok (.aload_n 0, 1) := by decide +kernel
theorem dX8_spare_85 : decode cX8_spare 85 = .ok (.getfield 13, 3) := by decide +kernel
theorem dX8_spare_88 : decode cX8_spare 88 = .ok (.invokestatic 196, 3) := by decide +kernel
theorem dX8_spare_91 : decode cX8_spare 91 = .ok (.iconst 4, 1) := by decide +kernel
theorem dX8_spare_92 : decode cX8_spare 92 = .ok (.iload_n 2, 1) := by decide +kernel
theorem dX8_spare_93 : decode cX8_spare 93 = .ok (.imul, 1) := by decide +kernel
theorem dX8_spare_94 : decode cX8_spare 94 = .ok (.istore_n 3, 1) := by decide +kernel
theorem dX8_spare_95 : decode cX8_spare 95 = .ok (.iload_n 3, 1) := by decide +kernel
theorem dX8_spare_96 : decode cX8_spare 96 = .ok (.bipush 28, 2) := by decide +kernel
theorem dX8_spare_98 : decode cX8_spare 98 = .ok (.if_icmp .ge 31, 3) := by decide +kernel
theorem dX8_spare_101 : decode cX8_spare 101 = .ok (.aload_n 0, 1) := by decide +kernel
theorem dX8_spare_102 : decode cX8_spare 102 = .ok (.getfield 13, 3) := by decide +kernel
theorem dX8_spare_105 : decode cX8_spare 105 = .ok (.sipush 1761, 3) := by decide +kernel
theorem dX8_spare_108 : decode cX8_spare 108 = .ok (.iload_n 3, 1) := by decide +kernel
theorem dX8_spare_109 : decode cX8_spare 109 = .ok (.iadd, 1) := by decide +kernel
theorem dX8_spare_110 : decode cX8_spare 110 = .ok (.aload_n 0, 1) := by decide +kernel
theorem dX8_spare_111 : decode cX8_spare 111 = .ok (.getfield 13, 3) := by decide +kernel
theorem dX8_spare_114 : decode cX8_spare 114 = .ok (.sipush 1761, 3) := by decide +kernel
theorem dX8_spare_117 : decode cX8_spare 117 = .ok (.iload_n 3, 1) := by decide +kernel
theorem dX8_spare_118 : decode cX8_spare 118 = .ok (.iadd, 1) := by decide +kernel
theorem dX8_spare_119 : decode cX8_spare 119 = .ok (.iconst 4, 1) := by decide +kernel
theorem dX8_spare_120 : decode cX8_spare 120 = .ok (.iadd, 1) := by decide +kernel
theorem dX8_spare_121 : decode cX8_spare 121 = .ok (.iaload, 1) := by decide +kernel
theorem dX8_spare_122 : decode cX8_spare 122 = .ok (.iastore, 1) := by decide +kernel
theorem dX8_spare_123 : decode cX8_spare 123 = .ok (.iinc 3 1, 3) := by decide +kernel
theorem dX8_spare_126 : decode cX8_spare 126 = .ok (.goto (-31), 3) := by decide +kernel
theorem dX8_spare_129 : decode cX8_spare 129 = .ok (.aload_n 0, 1) := by decide +kernel
theorem dX8_spare_130 : decode cX8_spare 130 = .ok (.getfield 13, 3) := by decide +kernel
theorem dX8_spare_133 : decode cX8_spare 133 = .ok (.iconst 3, 1) := by decide +kernel
theorem dX8_spare_134 : decode cX8_spare 134 = .ok (.dup2, 1) := by decide +kernel
theorem dX8_spare_135 : decode cX8_spare 135 = .ok (.iaload, 1) := by decide +kernel
theorem dX8_spare_136 : decode cX8_spare 136 = .ok (.iconst 1, 1) := by decide +kernel
theorem dX8_spare_137 : decode cX8_spare 137 = .ok (.isub, 1) := by decide +kernel
theorem dX8_spare_138 : decode cX8_spare 138 = .ok (.iastore, 1) := by decide +kernel
theorem dX8_spare_139 : decode cX8_spare 139 = .ok (.aload_n 0, 1) := by decide +kernel
theorem dX8_spare_140 : decode cX8_spare 140 = .ok (.aload_n 0, 1) := by decide +kernel
theorem dX8_spare_141 : decode cX8_spare 141 = .ok (.getfield 13, 3) := by decide +kernel
theorem dX8_spare_144 : decode cX8_spare 144 = .ok (.bipush 60, 2) := by decide +kernel
theorem dX8_spare_146 : decode cX8_spare 146 = .ok (.invokevirtual 200, 3) := by decide +kernel
theorem dX8_spare_149 : decode cX8_spare 149 = .ok (.iconst 1, 1) := by decide +kernel
theorem dX8_spare_150 : decode cX8_spare 150 = .ok (.istore_n 3, 1) := by decide +kernel
theorem dX8_spare_151 : decode cX8_spare 151 = .ok (.iconst 0, 1) := by decide +kernel
theorem dX8_spare_152 : decode cX8_spare 152 = .ok (.istore 4, 2) := by decide +kernel
theorem dX8_spare_154 : decode cX8_spare 154 = .ok (.iload 4, 2) := by decide +kernel
theorem dX8_spare_156 : decode cX8_spare 156 = .ok (.aload_n 0, 1) := by decide +kernel
theorem dX8_spare_157 : decode cX8_spare 157 = .ok (.getfield 7, 3) := by decide +kernel
theorem dX8_spare_160 : decode cX8_spare 160 = .ok (.iconst 0, 1) := by decide +kernel
theorem dX8_spare_161 : decode cX8_spare 161 = .ok (.iaload, 1) := by decide +kernel
theorem dX8_spare_162 : decode cX8_spare 162 = .ok (.if_icmp .ge 74, 3) := by decide +kernel
theorem dX8_spare_165 : decode cX8_spare 165 = .ok (.iload_n 3, 1) := by decide +kernel
theorem dX8_spare_166 : decode cX8_spare 166 = .ok (.ifCond .eq 62, 3) := by decide +kernel
theorem dX8_spare_169 : decode cX8_spare 169 = .ok (.aload_n 0, 1) := by decide +kernel
theorem dX8_spare_170 : decode cX8_spare 170 = .ok (.getfield 7, 3) := by decide +kernel
theorem dX8_spare_173 : decode cX8_spare 173 = .ok (.iload 4, 2) := by decide +kernel
theorem dX8_spare_175 : decode cX8_spare 175 = .ok (.invokestatic 81, 3) := by decide +kernel
theorem dX8_spare_178 : decode cX8_spare 178 = .ok (.ifCond .eq 46, 3) := by decide +kernel
theorem dX8_spare_181 : decode cX8_spare 181 = .ok (.aload_n 0, 1) := by decide +kernel
theorem dX8_spare_182 : decode cX8_spare 182 = .ok (.getfield 42, 3) := by decide +kernel
theorem dX8_spare_185 : decode cX8_spare 185 = .ok (.iload 4, 2) := by decide +kernel
theorem dX8_spare_187 : decode cX8_spare 187 = .ok (.iaload, 1) := by decide +kernel
theorem dX8_spare_188 : decode cX8_spare 188 = .ok (.iconst 3, 1) := by decide +kernel
theorem dX8_spare_189 : decode cX8_spare 189 = .ok (.aload_n 0, 1) := by decide +kernel
theorem dX8_spare_190 : decode cX8_spare 190 = .ok (.getfield 16, 3) := by decide +kernel
theorem dX8_spare_193 : decode cX8_spare 193 = .ok (.bipush 6, 2) := by decide +kernel
theorem dX8_spare_195 : decode cX8_spare 195 = .ok (.bipush 6, 2) := by decide +kernel
theorem dX8_spare_197 : decode cX8_spare 197 = .ok (.iload 4, 2) := by decide +kernel
theorem dX8_spare_199 : decode cX8_spare 199 = .ok (.imul, 1) := by decide +kernel
theorem dX8_spare_200 : decode cX8_spare 200 = .ok (.iadd, 1) := by decide +kernel
theorem dX8_spare_201 : decode cX8_spare 201 = .ok (.iconst 2, 1) := by decide +kernel
theorem dX8_spare_202 : decode cX8_spare 202 = .ok (.iadd, 1) := by decide +kernel
theorem dX8_spare_203 : decode cX8_spare 203 = .ok (.iaload, 1) := by decide +kernel
theorem dX8_spare_204 : decode cX8_spare 204 = .ok (.imul, 1) := by decide +kernel
theorem dX8_spare_205 : decode cX8_spare 205 = .ok (.aload_n 0, 1) := by decide +kernel
theorem dX8_spare_206 : decode cX8_spare 206 = .ok (.getfield 16, 3) := by decide +kernel
theorem dX8_spare_209 : decode cX8_spare 209 = .ok (.bipush 6, 2) := by decide +kernel
theorem dX8_spare_211 : decode cX8_spare 211 = .ok (.bipush 6, 2) := by decide +kernel
theorem dX8_spare_213 : decode cX8_spare 213 = .ok (.iload 4, 2) := by decide +kernel
theorem dX8_spare_215 : decode cX8_spare 215 = .ok (.imul, 1) := by decide +kernel
theorem dX8_spare_216 : decode cX8_spare 216 = .ok (.iadd, 1) := by decide +kernel
theorem dX8_spare_217 : decode cX8_spare 217 = .ok (.iconst 1, 1) := by decide +kernel
theorem dX8_spare_218 : decode cX8_spare 218 = .ok (.iadd, 1) := by decide +kernel
theorem dX8_spare_219 : decode cX8_spare 219 = .ok (.iaload, 1) := by decide +kernel
theorem dX8_spare_220 : decode cX8_spare 220 = .ok (.iadd, 1) := by decide +kernel
theorem dX8_spare_221 : decode cX8_spare 221 = .ok (.if_icmp .ne 7, 3) := by decide +kernel
theorem dX8_spare_224 : decode cX8_spare 224 = .ok (.iconst 1, 1) := by decide +kernel
theorem dX8_spare_225 : decode cX8_spare 225 = .ok (.goto 4, 3) := by decide +kernel
theorem dX8_spare_228 : decode cX8_spare 228 = .ok (.iconst 0, 1) := by decide +kernel
theorem dX8_spare_229 : decode cX8_spare 229 = .ok (.istore_n 3, 1) := by decide +kernel
theorem dX8_spare_230 : decode cX8_spare 230 = .ok (.iinc 4 1, 3) := by decide +kernel
theorem dX8_spare_233 : decode cX8_spare 233 = .ok (.goto (-79), 3) := by decide +kernel
theorem dX8_spare_236 : decode cX8_spare 236 = .ok (.iload_n 1, 1) := by decide +kernel
theorem dX8_spare_237 : decode cX8_spare 237 = .ok (.iload_n 3, 1) := by decide +kernel
theorem dX8_spare_238 : decode cX8_spare 238 = .ok (.ifCond .eq 9, 3) := by decide +kernel
theorem dX8_spare_241 : decode cX8_spare 241 = .ok (.iconst 1, 1) := by decide +kernel
theorem dX8_spare_242 : decode cX8_spare 242 = .ok (.iload_n 2, 1) := by decide +kernel
theorem dX8_spare_243 : decode cX8_spare 243 = .ok (.ishl, 1) := by decide +kernel
theorem dX8_spare_244 : decode cX8_spare 244 = .ok (.goto 4, 3) := by decide +kernel
theorem dX8_spare_247 : decode cX8_spare 247 = .ok (.iconst 0, 1) := by decide +kernel
theorem dX8_spare_248 : decode cX8_spare 248 = .ok (.ior, 1) := by decide +kernel
theorem dX8_spare_249 : decode cX8_spare 249 = .ok (.istore_n 1, 1) := by decide +kernel
theorem dX8_spare_250 : decode cX8_spare 250 = .ok (.iinc 2 1, 3) := by decide +kernel
theorem dX8_spare_253 : decode cX8_spare 253 = .ok (.goto (-183), 3) := by decide +kernel
theorem dX8_spare_256 : decode cX8_spare 256 = .ok (.iload_n 1, 1) := by decide +kernel
theorem dX8_spare_257 : decode cX8_spare 257 = .ok (.ireturn, 1) := by decide +kernel
theorem dX8_log_0 : decode cX8_log 0 = .ok (.aload_n 0, 1) := by decide +kernel
theorem dX8_log_1 : decode cX8_log 1 = .ok (.iconst 0, 1) := by decide +kernel
theorem dX8_log_2 : decode cX8_log 2 = .ok (.putfield 48, 3) := by decide +kernel
theorem dX8_log_5 : decode cX8_log 5 = .ok (.iload_n 1, 1) := by decide +kernel
theorem dX8_log_6 : decode cX8_log 6 = .ok (.i2l, 1) := by decide +kernel
theorem dX8_log_7 : decode cX8_log 7 = .ok (.lconst 0, 1) := by decide +kernel
theorem dX8_log_8 : decode cX8_log 8 = .ok (.ldc2_w 216, 3) := by decide +kernel
theorem dX8_log_11 : decode cX8_log 11 = .ok (.invokestatic 51, 3) := by decide +kernel
theorem dX8_log_14 : decode cX8_log 14 = .ok (.ifCond .eq 30, 3) := by decide +kernel
theorem dX8_log_17 : decode cX8_log 17 = .ok (.iload_n 2, 1) := by decide +kernel
theorem dX8_log_18 : decode cX8_log 18 = .ok (.i2l, 1) := by decide +kernel
theorem dX8_log_19 : decode cX8_log 19 = .ok (.lconst 0, 1) := by decide +kernel
theorem dX8_log_20 : decode cX8_log 20 = .ok (.ldc2_w 216, 3) := by decide +kernel
theorem dX8_log_23 : decode cX8_log 23 = .ok (.invokestatic 51, 3) := by decide +kernel
theorem dX8_log_26 : decode cX8_log 26 = .ok (.ifCond .eq 18, 3) := by decide +kernel
theorem dX8_log_29 : decode cX8_log 29 = .ok (.iload_n 1, 1) := by decide +kernel
theorem dX8_log_30 : decode cX8_log 30 = .ok (.iload_n 2, 1) := by decide +kernel
theorem dX8_log_31 : decode cX8_log 31 = .ok (.if_icmp .eq 13, 3) := by decide +kernel
theorem dX8_log_34 : decode cX8_log 34 = .ok (.iload_n 3, 1) := by decide +kernel
theorem dX8_log_35 : decode cX8_log 35 = .ok (.i2l, 1) := by decide +kernel
theorem dX8_log_36 : decode cX8_log 36 = .ok (.lconst 0, 1) := by decide +kernel
theorem dX8_log_37 : decode cX8_log 37 = .ok (.lconst 1, 1) := by decide +kernel
theorem dX8_log_38 : decode cX8_log 38 = .ok (.invokestatic 51, 3) := by decide +kernel
theorem dX8_log_41 : decode cX8_log 41 = .ok (.ifCond .ne 5, 3) := by decide +kernel
theorem dX8_log_44 : decode cX8_log 44 = .ok (.iconst (-1), 1) := by decide +kernel
theorem dX8_log_45 : decode cX8_log 45 = .ok (.ireturn, 1) := by decide +kernel
theorem dX8_log_46 : decode cX8_log 46 = .ok (.aload_n 0, 1) := by decide +kernel
theorem dX8_log_47 : decode cX8_log 47 = .ok (.getfield 7, 3) := by decide +kernel
theorem dX8_log_50 : decode cX8_log 50 = .ok (.iconst 4, 1) := by decide +kernel
theorem dX8_log_51 : decode cX8_log 51 = .ok (.iaload, 1) := by decide +kernel
theorem dX8_log_52 : decode cX8_log 52 = .ok (.bipush 12, 2) := by decide +kernel
theorem dX8_log_54 : decode cX8_log 54 = .ok (.if_icmp .ne 6, 3) := by decide +kernel
theorem dX8_log_57 : decode cX8_log 57 = .ok (.bipush (-3), 2) := by decide +kernel
theorem dX8_log_59 : decode cX8_log 59 = .ok (.ireturn, 1) := by decide +kernel
theorem dX8_log_60 : decode cX8_log 60 = .ok (.sipush 1793, 3) := by decide +kernel
theorem dX8_log_63 : decode cX8_log 63 = .ok (.iconst 3, 1) := by decide +kernel
theorem dX8_log_64 : decode cX8_log 64 = .ok (.aload_n 0, 1) := by decide +kernel
theorem dX8_log_65 : decode cX8_log 65 = .ok (.getfield 7, 3) := by decide +kernel
theorem dX8_log_68 : decode cX8_log 68 = .ok (.iconst 4, 1) := by decide +kernel
theorem dX8_log_69 : decode cX8_log 69 = .ok (.iaload, 1) := by decide +kernel
theorem dX8_log_70 : decode cX8_log 70 = .ok (.imul, 1) := by decide +kernel
theorem dX8_log_71 : decode cX8_log 71 = .ok (.iadd, 1) := by decide +kernel
theorem dX8_log_72 : decode cX8_log 72 = .ok (.istore 4, 2) := by decide +kernel
theorem dX8_log_74 : decode cX8_log 74 = .ok (.aload_n 0, 1) := by decide +kernel
theorem dX8_log_75 : decode cX8_log 75 = .ok (.getfield 7, 3) := by decide +kernel
theorem dX8_log_78 : decode cX8_log 78 = .ok (.iload 4, 2) := by decide +kernel
theorem dX8_log_80 : decode cX8_log 80 = .ok (.iload_n 1, 1) := by decide +kernel
theorem dX8_log_81 : decode cX8_log 81 = .ok (.iastore, 1) := by decide +kernel
theorem dX8_log_82 : decode cX8_log 82 = .ok (.aload_n 0, 1) := by decide +kernel
theorem dX8_log_83 : decode cX8_log 83 = .ok (.getfield 7, 3) := by decide +kernel
theorem dX8_log_86 : decode cX8_log 86 = .ok (.iload 4, 2) := by decide +kernel
theorem dX8_log_88 : decode cX8_log 88 = .ok (.iconst 1, 1) := by decide +kernel
theorem dX8_log_89 : decode cX8_log 89 = .ok (.iadd, 1) := by decide +kernel
theorem dX8_log_90 : decode cX8_log 90 = .ok (.iload_n 2, 1) := by decide +kernel
theorem dX8_log_91 : decode cX8_log 91 = .ok (.iastore, 1) := by decide +kernel
theorem dX8_log_92 : decode cX8_log 92 = .ok (.aload_n 0, 1) := by decide +kernel
theorem dX8_log_93 : decode cX8_log 93 = .ok (.getfield 7, 3) := by decide +kernel
theorem dX8_log_96 : decode cX8_log 96 = .ok (.iload 4, 2) := by decide +kernel
theorem dX8_log_98 : decode cX8_log 98 = .ok (.iconst 2, 1) := by decide +kernel
theorem dX8_log_99 : decode cX8_log 99 = .ok (.iadd, 1) := by decide +kernel
theorem dX8_log_100 : decode cX8_log 100 = .ok (.iload_n 3, 1) := by decide +kernel
theorem dX8_log_101 : decode cX8_log 101 = .ok (.iastore, 1) := by decide +kernel
theorem dX8_log_102 : decode cX8_log 102 = .ok (.aload_n 0, 1) := by decide +kernel
theorem dX8_log_103 : decode cX8_log 103 = .ok (.getfield 7, 3) := by decide +kernel
theorem dX8_log_106 : decode cX8_log 106 = .ok (.iconst 4, 1) := by decide +kernel
theorem dX8_log_107 : decode cX8_log 107 = .ok (.dup2, 1) := by decide +kernel
theorem dX8_log_108 : decode cX8_log 108 = .ok (.iaload, 1) := by decide +kernel
theorem dX8_log_109 : decode cX8_log 109 = .ok (.iconst 1, 1) := by decide +kernel
theorem dX8_log_110 : decode cX8_log 110 = .ok (.iadd, 1) := by decide +kernel
theorem dX8_log_111 : decode cX8_log 111 = .ok (.iastore, 1) := by decide +kernel
theorem dX8_log_112 : decode cX8_log 112 = .ok (.aload_n 0, 1) := by decide +kernel
theorem dX8_log_113 : decode cX8_log 113 = .ok (.getfield 7, 3) := by decide +kernel
theorem dX8_log_116 : decode cX8_log 116 = .ok (.iconst 4, 1) := by decide +kernel
theorem dX8_log_117 : decode cX8_log 117 = .ok (.iaload, 1) := by decide +kernel
theorem dX8_log_118 : decode cX8_log 118 = .ok (.ireturn, 1) := by decide +kernel
theorem dX8_burn_0 : decode cX8_burn 0 = .ok (.aload_n 0, 1) := by decide +kernel
theorem dX8_burn_1 : decode cX8_burn 1 = .ok (.iconst 0, 1) := by decide +kernel
theorem dX8_burn_2 : decode cX8_burn 2 = .ok (.putfield 48, 3) := by decide +kernel
theorem dX8_burn_5 : decode cX8_burn 5 = .ok (.aload_n 0, 1) := by decide +kernel
theorem dX8_burn_6 : decode cX8_burn 6 = .ok (.getfield 7, 3) := by decide +kernel
theorem dX8_burn_9 : decode cX8_burn 9 = .ok (.iconst 4, 1) := by decide +kernel
theorem dX8_burn_10 : decode cX8_burn 10 = .ok (.iaload, 1) := by decide +kernel
theorem dX8_burn_11 : decode cX8_burn 11 = .ok (.istore_n 1, 1) := by decide +kernel
theorem dX8_burn_12 : decode cX8_burn 12 = .ok (.aload_n 0, 1) := by decide +kernel
theorem dX8_burn_13 : decode cX8_burn 13 = .ok (.getfield 7, 3) := by decide +kernel
theorem dX8_burn_16 : decode cX8_burn 16 = .ok (.iconst 4, 1) := by decide +kernel
theorem dX8_burn_17 : decode cX8_burn 17 = .ok (.iconst 0, 1) := by decide +kernel
theorem dX8_burn_18 : decode cX8_burn 18 = .ok (.iastore, 1) := by decide +kernel
theorem dX8_burn_19 : decode cX8_burn 19 = .ok (.iload_n 1, 1) := by decide +kernel
theorem dX8_burn_20 : decode cX8_burn 20 = .ok (.ireturn, 1) := by decide +kernel
theorem dX8_sureOnes_0 : decode cX8_sureOnes 0 = .ok (.iconst 0, 1) := by decide +kernel
theorem dX8_sureOnes_1 : decode cX8_sureOnes 1 = .ok (.istore_n 1, 1) := by decide +kernel
theorem dX8_sureOnes_2 : decode cX8_sureOnes 2 = .ok (.iconst 0, 1) := by decide +kernel
theorem dX8_sureOnes_3 : decode cX8_sureOnes 3 = .ok (.istore_n 2, 1) := by decide +kernel
theorem dX8_sureOnes_4 : decode cX8_sureOnes 4 = .ok (.iconst 0, 1) := by decide +kernel
theorem dX8_sureOnes_5 : decode cX8_sureOnes 5 = .ok (.istore_n 3, 1) := by decide +kernel
theorem dX8_sureOnes_6 : decode cX8_sureOnes 6 = .ok (.iload_n 3, 1) := by decide +kernel
theorem dX8_sureOnes_7 : decode cX8_sureOnes 7 = .ok (.aload_n 0, 1) := by decide +kernel
theorem dX8_sureOnes_8 : decode cX8_sureOnes 8 = .ok (.getfield 7, 3) := by decide +kernel
theorem dX8_sureOnes_11 : decode cX8_sureOnes 11 = .ok (.iconst 4, 1) := by decide +kernel
theorem dX8_sureOnes_12 : decode cX8_sureOnes 12 = .ok (.iaload, 1) := by decide +kernel
theorem dX8_sureOnes_13 : decode cX8_sureOnes 13 = .ok (.if_icmp .ge 75, 3) := by decide +kernel
theorem dX8_sureOnes_16 : decode cX8_sureOnes 16 = .ok (.sipush 1793, 3) := by decide +kernel
theorem dX8_sureOnes_19 : decode cX8_sureOnes 19 = .ok (.iconst 3, 1) := by decide +kernel
theorem dX8_sureOnes_20 : decode cX8_sureOnes 20 = .ok (.iload_n 3, 1) := by decide +kernel
theorem dX8_sureOnes_21 : decode cX8_sureOnes 21 = .ok (.imul, 1) := by decide +kernel
theorem dX8_sureOnes_22 : decode cX8_sureOnes 22 = .ok (.iadd, 1) := by decide +kernel
theorem dX8_sureOnes_23 : decode cX8_sureOnes 23 = .ok (.istore 4, 2) := by decide +kernel
theorem dX8_sureOnes_25 : decode cX8_sureOnes 25 = .ok (.iload_n 1, 1) := by decide +kernel
theorem dX8_sureOnes_26 : decode cX8_sureOnes 26 = .ok (.aload_n 0, 1) := by decide +kernel
theorem dX8_sureOnes_27 : decode cX8_sureOnes 27 = .ok (.getfield 7, 3) := by decide +kernel
theorem dX8_sureOnes_30 : decode cX8_sureOnes 30 = .ok (.iload 4, 2) := by decide +kernel
theorem dX8_sureOnes_32 : decode cX8_sureOnes 32 = .ok (.iconst 2, 1) := by decide +kernel
theorem dX8_sureOnes_33 : decode cX8_sureOnes 33 = .ok (.iadd, 1) := by decide +kernel
theorem dX8_sureOnes_34 : decode cX8_sureOnes 34 = .ok (.iaload, 1) := by decide +kernel
theorem dX8_sureOnes_35 : decode cX8_sureOnes 35 = .ok (.ifCond .ne 15, 3) := by decide +kernel
theorem dX8_sureOnes_38 : decode cX8_sureOnes 38 = .ok (.iconst 1, 1) := by decide +kernel
theorem dX8_sureOnes_39 : decode cX8_sureOnes 39 = .ok (.aload_n 0, 1) := by decide +kernel
theorem dX8_sureOnes_40 : decode cX8_sureOnes 40 = .ok (.getfield 7, 3) := by decide +kernel
theorem dX8_sureOnes_43 : decode cX8_sureOnes 43 = .ok (.iload 4, 2) := by decide +kernel
theorem dX8_sureOnes_45 : decode cX8_sureOnes 45 = .ok (.iaload, 1) := by decide +kernel
theorem dX8_sureOnes_46 : decode cX8_sureOnes 46 = .ok (.ishl, 1) := by decide +kernel
theorem dX8_sureOnes_47 : decode cX8_sureOnes 47 = .ok (.goto 4, 3) := by decide +kernel
theorem dX8_sureOnes_50 : decode cX8_sureOnes 50 = .ok (.iconst 0, 1) := by decide +kernel
theorem dX8_sureOnes_51 : decode cX8_sureOnes 51 = .ok (.ior, 1) := by decide +kernel
theorem dX8_sureOnes_52 : decode cX8_sureOnes 52 = .ok (.istore_n 1, 1) := by decide +kernel
theorem dX8_sureOnes_53 : decode cX8_sureOnes 53 = .ok (.iload_n 2, 1) := by decide +kernel
theorem dX8_sureOnes_54 : decode cX8_sureOnes 54 = .ok (.aload_n 0, 1) := by decide +kernel
theorem dX8_sureOnes_55 : decode cX8_sureOnes 55 = .ok (.getfield 7, 3) := by decide +kernel
theorem dX8_sureOnes_58 : decode cX8_sureOnes 58 = .ok (.iload 4, 2) := by decide +kernel
theorem dX8_sureOnes_60 : decode cX8_sureOnes 60 = .ok (.iconst 2, 1) := by decide +kernel
theorem dX8_sureOnes_61 : decode cX8_sureOnes 61 = .ok (.iadd, 1) := by decide +kernel
theorem dX8_sureOnes_62 : decode cX8_sureOnes 62 = .ok (.iaload, 1) := by decide +kernel
theorem dX8_sureOnes_63 : decode cX8_sureOnes 63 = .ok (.iconst 1, 1) := by decide +kernel
theorem dX8_sureOnes_64 : decode cX8_sureOnes 64 = .ok (.if_icmp .ne 15, 3) := by decide +kernel
theorem dX8_sureOnes_67 : decode cX8_sureOnes 67 = .ok (.iconst 1, 1) := by decide +kernel
theorem dX8_sureOnes_68 : decode cX8_sureOnes 68 = .ok (.aload_n 0, 1) := by decide +kernel
theorem dX8_sureOnes_69 : decode cX8_sureOnes 69 = .ok (.getfield 7, 3) := by decide +kernel
theorem dX8_sureOnes_72 : decode cX8_sureOnes 72 = .ok (.iload 4, 2) := by decide +kernel
theorem dX8_sureOnes_74 : decode cX8_sureOnes 74 = .ok (.iaload, 1) := by decide +kernel
theorem dX8_sureOnes_75 : decode cX8_sureOnes 75 = .ok (.ishl, 1) := by decide +kernel
theorem dX8_sureOnes_76 : decode cX8_sureOnes 76 = .ok (.goto 4, 3) := by decide +kernel
theorem dX8_sureOnes_79 : decode cX8_sureOnes 79 = .ok (.iconst 0, 1) := by decide +kernel
theorem dX8_sureOnes_80 : decode cX8_sureOnes 80 = .ok (.ior, 1) := by decide +kernel
theorem dX8_sureOnes_81 : decode cX8_sureOnes 81 = .ok (.istore_n 2, 1) := by decide +kernel
theorem dX8_sureOnes_82 : decode cX8_sureOnes 82 = .ok (.iinc 3 1, 3) := by decide +kernel
theorem dX8_sureOnes_85 : decode cX8_sureOnes 85 = .ok (.goto (-79), 3) := by decide +kernel
theorem dX8_sureOnes_88 : decode cX8_sureOnes 88 = .ok (.iload_n 1, 1) := by decide +kernel
theorem dX8_sureOnes_89 : decode cX8_sureOnes 89 = .ok (.iload_n 2, 1) := by decide +kernel
theorem dX8_sureOnes_90 : decode cX8_sureOnes 90 = .ok (.iand, 1) := by decide +kernel
theorem dX8_sureOnes_91 : decode cX8_sureOnes 91 = .ok (.ireturn, 1) := by decide +kernel
theorem dX8_sure_0 : decode cX8_sure 0 = .ok (.aload_n 0, 1) := by decide +kernel
theorem dX8_sure_1 : decode cX8_sure 1 = .ok (.iconst 0, 1) := by decide +kernel
theorem dX8_sure_2 : decode cX8_sure 2 = .ok (.putfield 48, 3) := by decide +kernel
theorem dX8_sure_5 : decode cX8_sure 5 = .ok (.aload_n 0, 1) := by decide +kernel
theorem dX8_sure_6 : decode cX8_sure 6 = .ok (.invokevirtual 218, 3) := by decide +kernel
theorem dX8_sure_9 : decode cX8_sure 9 = .ok (.ireturn, 1) := by decide +kernel
theorem dX8_fits_0 : decode cX8_fits 0 = .ok (.aload_n 0, 1) := by decide +kernel
theorem dX8_fits_1 : decode cX8_fits 1 = .ok (.iconst 0, 1) := by decide +kernel
theorem dX8_fits_2 : decode cX8_fits 2 = .ok (.putfield 48, 3) := by decide +kernel
theorem dX8_fits_5 : decode cX8_fits 5 = .ok (.iload_n 1, 1) := by decide +kernel
theorem dX8_fits_6 : decode cX8_fits 6 = .ok (.i2l, 1) := by decide +kernel
theorem dX8_fits_7 : decode cX8_fits 7 = .ok (.lconst 0, 1) := by decide +kernel
theorem dX8_fits_8 : decode cX8_fits 8 = .ok (.ldc2_w 77, 3) := by decide +kernel
theorem dX8_fits_11 : decode cX8_fits 11 = .ok (.invokestatic 51, 3) := by decide +kernel
theorem dX8_fits_14 : decode cX8_fits 14 = .ok (.ifCond .ne 5, 3) := by decide +kernel
theorem dX8_fits_17 : decode cX8_fits 17 = .ok (.iconst (-1), 1) := by decide +kernel
theorem dX8_fits_18 : decode cX8_fits 18 = .ok (.ireturn, 1) := by decide +kernel
theorem dX8_fits_19 : decode cX8_fits 19 = .ok (.aload_n 0, 1) := by decide +kernel
theorem dX8_fits_20 : decode cX8_fits 20 = .ok (.invokevirtual 218, 3) := by decide +kernel
theorem dX8_fits_23 : decode cX8_fits 23 = .ok (.istore_n 2, 1) := by decide +kernel
theorem dX8_fits_24 : decode cX8_fits 24 = .ok (.iconst 0, 1) := by decide +kernel
theorem dX8_fits_25 : decode cX8_fits 25 = .ok (.istore_n 3, 1) := by decide +kernel
theorem dX8_fits_26 : decode cX8_fits 26 = .ok (.iconst 0, 1) := by decide +kernel
theorem dX8_fits_27 : decode cX8_fits 27 = .ok (.istore 4, 2) := by decide +kernel
theorem dX8_fits_29 : decode cX8_fits 29 = .ok (.iload 4, 2) := by decide +kernel
theorem dX8_fits_31 : decode cX8_fits 31 = .ok (.iconst 1, 1) := by decide +kernel
theorem dX8_fits_32 : decode cX8_fits 32 = .ok (.aload_n 0, 1) := by decide +kernel
theorem dX8_fits_33 : decode cX8_fits 33 = .ok (.getfield 7, 3) := by decide +kernel
theorem dX8_fits_36 : decode cX8_fits 36 = .ok (.iconst 0, 1) := by decide +kernel
theorem dX8_fits_37 : decode cX8_fits 37 = .ok (.iaload, 1) := by decide +kernel
theorem dX8_fits_38 : decode cX8_fits 38 = .ok (.ishl, 1) := by decide +kernel
theorem dX8_fits_39 : decode cX8_fits 39 = .ok (.if_icmp .ge 35, 3) := by decide +kernel
theorem dX8_fits_42 : decode cX8_fits 42 = .ok (.iload_n 3, 1) := by decide +kernel
theorem dX8_fits_43 : decode cX8_fits 43 = .ok (.iload 4, 2) := by decide +kernel
theorem dX8_fits_45 : decode cX8_fits 45 = .ok (.invokestatic 210, 3) := by decide +kernel
theorem dX8_fits_48 : decode cX8_fits 48 = .ok (.iload_n 1, 1) := by decide +kernel
theorem dX8_fits_49 : decode cX8_fits 49 = .ok (.if_icmp .ne 16, 3) := by decide +kernel
theorem dX8_fits_52 : decode cX8_fits 52 = .ok (.iload_n 2, 1) := by decide +kernel
theorem dX8_fits_53 : decode cX8_fits 53 = .ok (.iload 4, 2) := by decide +kernel
theorem dX8_fits_55 : decode cX8_fits 55 = .ok (.iconst (-1), 1) := by decide +kernel
theorem dX8_fits_56 : decode cX8_fits 56 = .ok (.ixor, 1) := by decide +kernel
theorem dX8_fits_57 : decode cX8_fits 57 = .ok (.iand, 1) := by decide +kernel
theorem dX8_fits_58 : decode cX8_fits 58 = .ok (.ifCond .ne 7, 3) := by decide +kernel
theorem dX8_fits_61 : decode cX8_fits 61 = .ok (.iconst 1, 1) := by decide +kernel
theorem dX8_fits_62 : decode cX8_fits 62 = .ok (.goto 4, 3) := by decide +kernel
theorem dX8_fits_65 : decode cX8_fits 65 = .ok (.iconst 0, 1) := by decide +kernel
theorem dX8_fits_66 : decode cX8_fits 66 = .ok (.iadd, 1) := by decide +kernel
theorem dX8_fits_67 : decode cX8_fits 67 = .ok (.istore_n 3, 1) := by decide +kernel
theorem dX8_fits_68 : decode cX8_fits 68 = .ok (.iinc 4 1, 3) := by decide +kernel
theorem dX8_fits_71 : decode cX8_fits 71 = .ok (.goto (-42), 3) := by decide +kernel
theorem dX8_fits_74 : decode cX8_fits 74 = .ok (.iload_n 3, 1) := by decide +kernel
theorem dX8_fits_75 : decode cX8_fits 75 = .ok (.ireturn, 1) := by decide +kernel
theorem dX8_isLogged_0 : decode cX8_isLogged 0 = .ok (.iconst 0, 1) := by decide +kernel
theorem dX8_isLogged_1 : decode cX8_isLogged 1 = .ok (.istore_n 3, 1) := by decide +kernel
theorem dX8_isLogged_2 : decode cX8_isLogged 2 = .ok (.iconst 0, 1) := by decide +kernel
theorem dX8_isLogged_3 : decode cX8_isLogged 3 = .ok (.istore 4, 2) := by decide +kernel
theorem dX8_isLogged_5 : decode cX8_isLogged 5 = .ok (.iload 4, 2) := by decide +kernel
theorem dX8_isLogged_7 : decode cX8_isLogged 7 = .ok (.aload_n 0, 1) := by decide +kernel
theorem dX8_isLogged_8 : decode cX8_isLogged 8 = .ok (.getfield 7, 3) := by decide +kernel
theorem dX8_isLogged_11 : decode cX8_isLogged 11 = .ok (.iconst 4, 1) := by decide +kernel
theorem dX8_isLogged_12 : decode cX8_isLogged 12 = .ok (.iaload, 1) := by decide +kernel
theorem dX8_isLogged_13 : decode cX8_isLogged 13 = .ok (.if_icmp .ge 55, 3) := by decide +kernel
theorem dX8_isLogged_16 : decode cX8_isLogged 16 = .ok (.iload_n 3, 1) := by decide +kernel
theorem dX8_isLogged_17 : decode cX8_isLogged 17 = .ok (.ifCond .ne 39, 3) := by decide +kernel
theorem dX8_isLogged_20 : decode cX8_isLogged 20 = .ok (.aload_n 0, 1) := by decide +kernel
theorem dX8_isLogged_21 : decode cX8_isLogged 21 = .ok (.getfield 7, 3) := by decide +kernel
theorem dX8_isLogged_24 : decode cX8_isLogged 24 = .ok (.sipush 1793, 3) := by decide +kernel
theorem dX8_isLogged_27 : decode cX8_isLogged 27 = .ok (.iconst 3, 1) := by decide +kernel
theorem dX8_isLogged_28 : decode cX8_isLogged 28 = .ok (.iload 4, 2) := by decide +kernel
theorem dX8_isLogged_30 : decode cX8_isLogged 30 = .ok (.imul, 1) := by decide +kernel
theorem dX8_isLogged_31 : decode cX8_isLogged 31 = .ok (.iadd, 1) := by decide +kernel
theorem dX8_isLogged_32 : decode cX8_isLogged 32 = .ok (.iaload, 1) := by decide +kernel
theorem dX8_isLogged_33 : decode cX8_isLogged 33 = .ok (.iload_n 1, 1) := by decide +kernel
theorem dX8_isLogged_34 : decode cX8_isLogged 34 = .ok (.if_icmp .ne 26, 3) := by decide +kernel
theorem dX8_isLogged_37 : decode cX8_isLogged 37 = .ok (.aload_n 0, 1) := by decide +kernel
theorem dX8_isLogged_38 : decode cX8_isLogged 38 = .ok (.getfield 7, 3) := by decide +kernel
theorem dX8_isLogged_41 : decode cX8_isLogged 41 = .ok (.sipush 1793, 3) := by decide +kernel
theorem dX8_isLogged_44 : decode cX8_isLogged 44 = .ok (.iconst 3, 1) := by decide +kernel
theorem dX8_isLogged_45 : decode cX8_isLogged 45 = .ok (.iload 4, 2) := by decide +kernel
theorem dX8_isLogged_47 : decode cX8_isLogged 47 = .ok (.imul, 1) := by decide +kernel
theorem dX8_isLogged_48 : decode cX8_isLogged 48 = .ok (.iadd, 1) := by decide +kernel
theorem dX8_isLogged_49 : decode cX8_isLogged 49 = .ok (.iconst 1, 1) := by decide +kernel
theorem dX8_isLogged_50 : decode cX8_isLogged 50 = .ok (.iadd, 1) := by decide +kernel
theorem dX8_isLogged_51 : decode cX8_isLogged 51 = .ok (.iaload, 1) := by decide +kernel
theorem dX8_isLogged_52 : decode cX8_isLogged 52 = .ok (.iload_n 2, 1) := by decide +kernel
theorem dX8_isLogged_53 : decode cX8_isLogged 53 = .ok (.if_icmp .ne 7, 3) := by decide +kernel
theorem dX8_isLogged_56 : decode cX8_isLogged 56 = .ok (.iconst 1, 1) := by decide +kernel
theorem dX8_isLogged_57 : decode cX8_isLogged 57 = .ok (.goto 4, 3) := by decide +kernel
theorem dX8_isLogged_60 : decode cX8_isLogged 60 = .ok (.iconst 0, 1) := by decide +kernel
theorem dX8_isLogged_61 : decode cX8_isLogged 61 = .ok (.istore_n 3, 1) := by decide +kernel
theorem dX8_isLogged_62 : decode cX8_isLogged 62 = .ok (.iinc 4 1, 3) := by decide +kernel
theorem dX8_isLogged_65 : decode cX8_isLogged 65 = .ok (.goto (-60), 3) := by decide +kernel
theorem dX8_isLogged_68 : decode cX8_isLogged 68 = .ok (.iload_n 3, 1) := by decide +kernel
theorem dX8_isLogged_69 : decode cX8_isLogged 69 = .ok (.ireturn, 1) := by decide +kernel
theorem dX8_logsOf_0 : decode cX8_logsOf 0 = .ok (.iconst 0, 1) := by decide +kernel
theorem dX8_logsOf_1 : decode cX8_logsOf 1 = .ok (.istore_n 2, 1) := by decide +kernel
theorem dX8_logsOf_2 : decode cX8_logsOf 2 = .ok (.iconst 0, 1) := by decide +kernel
theorem dX8_logsOf_3 : decode cX8_logsOf 3 = .ok (.istore_n 3, 1) := by decide +kernel
theorem dX8_logsOf_4 : decode cX8_logsOf 4 = .ok (.iload_n 3, 1) := by decide +kernel
theorem dX8_logsOf_5 : decode cX8_logsOf 5 = .ok (.aload_n 0, 1) := by decide +kernel
theorem dX8_logsOf_6 : decode cX8_logsOf 6 = .ok (.getfield 7, 3) := by decide +kernel
theorem dX8_logsOf_9 : decode cX8_logsOf 9 = .ok (.iconst 4, 1) := by decide +kernel
theorem dX8_logsOf_10 : decode cX8_logsOf 10 = .ok (.iaload, 1) := by decide +kernel
theorem dX8_logsOf_11 : decode cX8_logsOf 11 = .ok (.if_icmp .ge 33, 3) := by decide +kernel
theorem dX8_logsOf_14 : decode cX8_logsOf 14 = .ok (.iload_n 2, 1) := by decide +kernel
theorem dX8_logsOf_15 : decode cX8_logsOf 15 = .ok (.aload_n 0, 1) := by decide +kernel
theorem dX8_logsOf_16 : decode cX8_logsOf 16 = .ok (.getfield 7, 3) := by decide +kernel
theorem dX8_logsOf_19 : decode cX8_logsOf 19 = .ok (.sipush 1793, 3) := by decide +kernel
theorem dX8_logsOf_22 : decode cX8_logsOf 22 = .ok (.iconst 3, 1) := by decide +kernel
theorem dX8_logsOf_23 : decode cX8_logsOf 23 = .ok (.iload_n 3, 1) := by decide +kernel
theorem dX8_logsOf_24 : decode cX8_logsOf 24 = .ok (.imul, 1) := by decide +kernel
theorem dX8_logsOf_25 : decode cX8_logsOf 25 = .ok (.iadd, 1) := by decide +kernel
theorem dX8_logsOf_26 : decode cX8_logsOf 26 = .ok (.iaload, 1) := by decide +kernel
theorem dX8_logsOf_27 : decode cX8_logsOf 27 = .ok (.iload_n 1, 1) := by decide +kernel
theorem dX8_logsOf_28 : decode cX8_logsOf 28 = .ok (.if_icmp .ne 7, 3) := by decide +kernel
theorem dX8_logsOf_31 : decode cX8_logsOf 31 = .ok (.iconst 1, 1) := by decide +kernel
theorem dX8_logsOf_32 : decode cX8_logsOf 32 = .ok (.goto 4, 3) := by decide +kernel
theorem dX8_logsOf_35 : decode cX8_logsOf 35 = .ok (.iconst 0, 1) := by decide +kernel
theorem dX8_logsOf_36 : decode cX8_logsOf 36 = .ok (.iadd, 1) := by decide +kernel
theorem dX8_logsOf_37 : decode cX8_logsOf 37 = .ok (.istore_n 2, 1) := by decide +kernel
theorem dX8_logsOf_38 : decode cX8_logsOf 38 = .ok (.iinc 3 1, 3) := by decide +kernel
theorem dX8_logsOf_41 : decode cX8_logsOf 41 = .ok (.goto (-37), 3) := by decide +kernel
theorem dX8_logsOf_44 : decode cX8_logsOf 44 = .ok (.iload_n 2, 1) := by decide +kernel
theorem dX8_logsOf_45 : decode cX8_logsOf 45 = .ok (.ireturn, 1) := by decide +kernel
theorem dX8_ask_0 : decode cX8_ask 0 = .ok (.aload_n 0, 1) := by decide +kernel
theorem dX8_ask_1 : decode cX8_ask 1 = .ok (.iconst 0, 1) := by decide +kernel
theorem dX8_ask_2 : decode cX8_ask 2 = .ok (.putfield 48, 3) := by decide +kernel
theorem dX8_ask_5 : decode cX8_ask 5 = .ok (.bipush (-4), 2) := by decide +kernel
theorem dX8_ask_7 : decode cX8_ask 7 = .ok (.istore_n 1, 1) := by decide +kernel
theorem dX8_ask_8 : decode cX8_ask 8 = .ok (.bipush 99, 2) := by decide +kernel
theorem dX8_ask_10 : decode cX8_ask 10 = .ok (.istore_n 2, 1) := by decide +kernel
theorem dX8_ask_11 : decode cX8_ask 11 = .ok (.iconst 0, 1) := by decide +kernel
theorem dX8_ask_12 : decode cX8_ask 12 = .ok (.istore_n 3, 1) := by decide +kernel
theorem dX8_ask_13 : decode cX8_ask 13 = .ok (.iload_n 3, 1) := by decide +kernel
theorem dX8_ask_14 : decode cX8_ask 14 = .ok (.aload_n 0, 1) := by decide +kernel
theorem dX8_ask_15 : decode cX8_ask 15 = .ok (.getfield 7, 3) := by decide +kernel
theorem dX8_ask_18 : decode cX8_ask 18 = .ok (.iconst 0, 1) := by decide +kernel
theorem dX8_ask_19 : decode cX8_ask 19 = .ok (.iaload, 1) := by decide +kernel
theorem dX8_ask_20 : decode cX8_ask 20 = .ok (.if_icmp .ge 85, 3) := by decide +kernel
theorem dX8_ask_23 : decode cX8_ask 23 = .ok (.aload_n 0, 1) := by decide +kernel
theorem dX8_ask_24 : decode cX8_ask 24 = .ok (.iload_n 3, 1) := by decide +kernel
theorem dX8_ask_25 : decode cX8_ask 25 = .ok (.invokevirtual 221, 3) := by decide +kernel
theorem dX8_ask_28 : decode cX8_ask 28 = .ok (.istore 4, 2) := by decide +kernel
theorem dX8_ask_30 : decode cX8_ask 30 = .ok (.iconst 0, 1) := by decide +kernel
theorem dX8_ask_31 : decode cX8_ask 31 = .ok (.istore 5, 2) := by decide +kernel
theorem dX8_ask_33 : decode cX8_ask 33 = .ok (.iload 5, 2) := by decide +kernel
theorem dX8_ask_35 : decode cX8_ask 35 = .ok (.aload_n 0, 1) := by decide +kernel
theorem dX8_ask_36 : decode cX8_ask 36 = .ok (.getfield 7, 3) := by decide +kernel
theorem dX8_ask_39 : decode cX8_ask 39 = .ok (.iconst 0, 1) := by decide +kernel
theorem dX8_ask_40 : decode cX8_ask 40 = .ok (.iaload, 1) := by decide +kernel
theorem dX8_ask_41 : decode cX8_ask 41 = .ok (.if_icmp .ge 58, 3) := by decide +kernel
theorem dX8_ask_44 : decode cX8_ask 44 = .ok (.iload 4, 2) := by decide +kernel
theorem dX8_ask_46 : decode cX8_ask 46 = .ok (.ifCond .le 53, 3) := by decide +kernel
theorem dX8_ask_49 : decode cX8_ask 49 = .ok (.aload_n 0, 1) := by decide +kernel
theorem dX8_ask_50 : decode cX8_ask 50 = .ok (.invokevirtual 218, 3) := by decide +kernel
theorem dX8_ask_53 : decode cX8_ask 53 = .ok (.iload_n 3, 1) := by decide +kernel
theorem dX8_ask_54 : decode cX8_ask 54 = .ok (.ishr, 1) := by decide +kernel
theorem dX8_ask_55 : decode cX8_ask 55 = .ok (.iconst 1, 1) := by decide +kernel
theorem dX8_ask_56 : decode cX8_ask 56 = .ok (.iand, 1) := by decide +kernel
theorem dX8_ask_57 : decode cX8_ask 57 = .ok (.ifCond .ne 42, 3) := by decide +kernel
theorem dX8_ask_60 : decode cX8_ask 60 = .ok (.iload 5, 2) := by decide +kernel
theorem dX8_ask_62 : decode cX8_ask 62 = .ok (.iload_n 3, 1) := by decide +kernel
theorem dX8_ask_63 : decode cX8_ask 63 = .ok (.if_icmp .eq 30, 3) := by decide +kernel
theorem dX8_ask_66 : decode cX8_ask 66 = .ok (.aload_n 0, 1) := by decide +kernel
theorem dX8_ask_67 : decode cX8_ask 67 = .ok (.iload_n 3, 1) := by decide +kernel
theorem dX8_ask_68 : decode cX8_ask 68 = .ok (.iload 5, 2) := by decide +kernel
theorem dX8_ask_70 : decode cX8_ask 70 = .ok (.invokevirtual 224, 3) := by decide +kernel
theorem dX8_ask_73 : decode cX8_ask 73 = .ok (.ifCond .ne 20, 3) := by decide +kernel
theorem dX8_ask_76 : decode cX8_ask 76 = .ok (.iload 4, 2) := by decide +kernel
theorem dX8_ask_78 : decode cX8_ask 78 = .ok (.iload_n 2, 1) := by decide +kernel
theorem dX8_ask_79 : decode cX8_ask 79 = .ok (.if_icmp .ge 14, 3) := by decide +kernel
theorem dX8_ask_82 : decode cX8_ask 82 = .ok (.bipush 10, 2) := by decide +kernel
theorem dX8_ask_84 : decode cX8_ask 84 = .ok (.iload_n 3, 1) := by decide +kernel
theorem dX8_ask_85 : decode cX8_ask 85 = .ok (.imul, 1) := by decide +kernel
theorem dX8_ask_86 : decode cX8_ask 86 = .ok (.iload 5, 2) := by decide +kernel
theorem dX8_ask_88 : decode cX8_ask 88 = .ok (.iadd, 1) := by decide +kernel
theorem dX8_ask_89 : decode cX8_ask 89 = .ok (.istore_n 1, 1) := by decide +kernel
theorem dX8_ask_90 : decode cX8_ask 90 = .ok (.iload 4, 2) := by decide +kernel
theorem dX8_ask_92 : decode cX8_ask 92 = .ok (.istore_n 2, 1) := by decide +kernel
theorem dX8_ask_93 : decode cX8_ask 93 = .ok (.iinc 5 1, 3) := by decide +kernel
theorem dX8_ask_96 : decode cX8_ask 96 = .ok (.goto (-63), 3) := by decide +kernel
theorem dX8_ask_99 : decode cX8_ask 99 = .ok (.iinc 3 1, 3) := by decide +kernel
theorem dX8_ask_102 : decode cX8_ask 102 = .ok (.goto (-89), 3) := by decide +kernel
theorem dX8_ask_105 : decode cX8_ask 105 = .ok (.iload_n 1, 1) := by decide +kernel
theorem dX8_ask_106 : decode cX8_ask 106 = .ok (.ireturn, 1) := by decide +kernel
theorem dX8_ship_0 : decode cX8_ship 0 = .ok (.aload_n 0, 1) := by decide +kernel
theorem dX8_ship_1 : decode cX8_ship 1 = .ok (.iconst 0, 1) := by decide +kernel
theorem dX8_ship_2 : decode cX8_ship 2 = .ok (.putfield 48, 3) := by decide +kernel
theorem dX8_ship_5 : decode cX8_ship 5 = .ok (.iload_n 1, 1) := by decide +kernel
theorem dX8_ship_6 : decode cX8_ship 6 = .ok (.i2l, 1) := by decide +kernel
theorem dX8_ship_7 : decode cX8_ship 7 = .ok (.lconst 0, 1) := by decide +kernel
theorem dX8_ship_8 : decode cX8_ship 8 = .ok (.iconst 1, 1) := by decide +kernel
theorem dX8_ship_9 : decode cX8_ship 9 = .ok (.aload_n 0, 1) := by decide +kernel
theorem dX8_ship_10 : decode cX8_ship 10 = .ok (.getfield 7, 3) := by decide +kernel
theorem dX8_ship_13 : decode cX8_ship 13 = .ok (.iconst 0, 1) := by decide +kernel
theorem dX8_ship_14 : decode cX8_ship 14 = .ok (.iaload, 1) := by decide +kernel
theorem dX8_ship_15 : decode cX8_ship 15 = .ok (.ishl, 1) := by decide +kernel
theorem dX8_ship_16 : decode cX8_ship 16 = .ok (.iconst 1, 1) := by decide +kernel
theorem dX8_ship_17 : decode cX8_ship 17 = .ok (.isub, 1) := by decide +kernel
theorem dX8_ship_18 : decode cX8_ship 18 = .ok (.i2l, 1) := by decide +kernel
theorem dX8_ship_19 : decode cX8_ship 19 = .ok (.invokestatic 51, 3) := by decide +kernel
theorem dX8_ship_22 : decode cX8_ship 22 = .ok (.ifCond .eq 15, 3) := by decide +kernel
theorem dX8_ship_25 : decode cX8_ship 25 = .ok (.iload_n 2, 1) := by decide +kernel
theorem dX8_ship_26 : decode cX8_ship 26 = .ok (.i2l, 1) := by decide +kernel
theorem dX8_ship_27 : decode cX8_ship 27 = .ok (.lconst 0, 1) := by decide +kernel
theorem dX8_ship_28 : decode cX8_ship 28 = .ok (.ldc2_w 228, 3) := by decide +kernel
theorem dX8_ship_31 : decode cX8_ship 31 = .ok (.invokestatic 51, 3) := by decide +kernel
theorem dX8_ship_34 : decode cX8_ship 34 = .ok (.ifCond .ne 5, 3) := by decide +kernel
theorem dX8_ship_37 : decode cX8_ship 37 = .ok (.iconst (-1), 1) := by decide +kernel
theorem dX8_ship_38 : decode cX8_ship 38 = .ok (.ireturn, 1) := by decide +kernel
theorem dX8_ship_39 : decode cX8_ship 39 = .ok (.iconst 0, 1) := by decide +kernel
theorem dX8_ship_40 : decode cX8_ship 40 = .ok (.istore_n 3, 1) := by decide +kernel
theorem dX8_ship_41 : decode cX8_ship 41 = .ok (.iconst 0, 1) := by decide +kernel
theorem dX8_ship_42 : decode cX8_ship 42 = .ok (.istore 4, 2) := by decide +kernel
theorem dX8_ship_44 : decode cX8_ship 44 = .ok (.iconst 0, 1) := by decide +kernel
theorem dX8_ship_45 : decode cX8_ship 45 = .ok (.istore 5, 2) := by decide +kernel
theorem dX8_ship_47 : decode cX8_ship 47 = .ok (.iload 5, 2) := by decide +kernel
theorem dX8_ship_49 : decode cX8_ship 49 = .ok (.aload_n 0, 1) := by decide +kernel
theorem dX8_ship_50 : decode cX8_ship 50 = .ok (.getfield 7, 3) := by decide +kernel
theorem dX8_ship_53 : decode cX8_ship 53 = .ok (.iconst 0, 1) := by decide +kernel
theorem dX8_ship_54 : decode cX8_ship 54 = .ok (.iaload, 1) := by decide +kernel
theorem dX8_ship_55 : decode cX8_ship 55 = .ok (.if_icmp .ge 69, 3) := by decide +kernel
theorem dX8_ship_58 : decode cX8_ship 58 = .ok (.iload_n 1, 1) := by decide +kernel
theorem dX8_ship_59 : decode cX8_ship 59 = .ok (.iload 5, 2) := by decide +kernel
theorem dX8_ship_61 : decode cX8_ship 61 = .ok (.ishr, 1) := by decide +kernel
theorem dX8_ship_62 : decode cX8_ship 62 = .ok (.iconst 1, 1) := by decide +kernel
theorem dX8_ship_63 : decode cX8_ship 63 = .ok (.iand, 1) := by decide +kernel
theorem dX8_ship_64 : decode cX8_ship 64 = .ok (.iconst 1, 1) := by decide +kernel
theorem dX8_ship_65 : decode cX8_ship 65 = .ok (.if_icmp .ne 21, 3) := by decide +kernel
theorem dX8_ship_68 : decode cX8_ship 68 = .ok (.aload_n 0, 1) := by decide +kernel
theorem dX8_ship_69 : decode cX8_ship 69 = .ok (.getfield 7, 3) := by decide +kernel
theorem dX8_ship_72 : decode cX8_ship 72 = .ok (.bipush 6, 2) := by decide +kernel
theorem dX8_ship_74 : decode cX8_ship 74 = .ok (.bipush 6, 2) := by decide +kernel
theorem dX8_ship_76 : decode cX8_ship 76 = .ok (.iload 5, 2) := by decide +kernel
theorem dX8_ship_78 : decode cX8_ship 78 = .ok (.imul, 1) := by decide +kernel
theorem dX8_ship_79 : decode cX8_ship 79 = .ok (.iadd, 1) := by decide +kernel
theorem dX8_ship_80 : decode cX8_ship 80 = .ok (.iconst 2, 1) := by decide +kernel
theorem dX8_ship_81 : decode cX8_ship 81 = .ok (.iadd, 1) := by decide +kernel
theorem dX8_ship_82 : decode cX8_ship 82 = .ok (.iaload, 1) := by decide +kernel
theorem dX8_ship_83 : decode cX8_ship 83 = .ok (.goto 4, 3) := by decide +kernel
theorem dX8_ship_86 : decode cX8_ship 86 = .ok (.iconst 2, 1) := by decide +kernel
theorem dX8_ship_87 : decode cX8_ship 87 = .ok (.istore 6, 2) := by decide +kernel
theorem dX8_ship_89 : decode cX8_ship 89 = .ok (.iload_n 3, 1) := by decide +kernel
theorem dX8_ship_90 : decode cX8_ship 90 = .ok (.iload 6, 2) := by decide +kernel
theorem dX8_ship_92 : decode cX8_ship 92 = .ok (.ifCond .ne 7, 3) := by decide +kernel
theorem dX8_ship_95 : decode cX8_ship 95 = .ok (.iconst 1, 1) := by decide +kernel
theorem dX8_ship_96 : decode cX8_ship 96 = .ok (.goto 4, 3) := by decide +kernel
theorem dX8_ship_99 : decode cX8_ship 99 = .ok (.iconst 0, 1) := by decide +kernel
theorem dX8_ship_100 : decode cX8_ship 100 = .ok (.iadd, 1) := by decide +kernel
theorem dX8_ship_101 : decode cX8_ship 101 = .ok (.istore_n 3, 1) := by decide +kernel
theorem dX8_ship_102 : decode cX8_ship 102 = .ok (.iload 4, 2) := by decide +kernel
theorem dX8_ship_104 : decode cX8_ship 104 = .ok (.iload 6, 2) := by decide +kernel
theorem dX8_ship_106 : decode cX8_ship 106 = .ok (.iconst 1, 1) := by decide +kernel
theorem dX8_ship_107 : decode cX8_ship 107 = .ok (.if_icmp .ne 7, 3) := by decide +kernel
theorem dX8_ship_110 : decode cX8_ship 110 = .ok (.iconst 1, 1) := by decide +kernel
theorem dX8_ship_111 : decode cX8_ship 111 = .ok (.goto 4, 3) := by decide +kernel
theorem dX8_ship_114 : decode cX8_ship 114 = .ok (.iconst 0, 1) := by decide +kernel
theorem dX8_ship_115 : decode cX8_ship 115 = .ok (.iadd, 1) := by decide +kernel
theorem dX8_ship_116 : decode cX8_ship 116 = .ok (.istore 4, 2) := by decide +kernel
theorem dX8_ship_118 : decode cX8_ship 118 = .ok (.iinc 5 1, 3) := by decide +kernel
theorem dX8_ship_121 : decode cX8_ship 121 = .ok (.goto (-74), 3) := by decide +kernel
theorem dX8_ship_124 : decode cX8_ship 124 = .ok (.iload_n 3, 1) := by decide +kernel
theorem dX8_ship_125 : decode cX8_ship 125 = .ok (.iload_n 2, 1) := by decide +kernel
theorem dX8_ship_126 : decode cX8_ship 126 = .ok (.if_icmp .le 13, 3) := by decide +kernel
theorem dX8_ship_129 : decode cX8_ship 129 = .ok (.iload 4, 2) := by decide +kernel
theorem dX8_ship_131 : decode cX8_ship 131 = .ok (.iload_n 2, 1) := by decide +kernel
theorem dX8_ship_132 : decode cX8_ship 132 = .ok (.if_icmp .gt 7, 3) := by decide +kernel
theorem dX8_ship_135 : decode cX8_ship 135 = .ok (.iconst 0, 1) := by decide +kernel
theorem dX8_ship_136 : decode cX8_ship 136 = .ok (.goto 20, 3) := by decide +kernel
theorem dX8_ship_139 : decode cX8_ship 139 = .ok (.iload 4, 2) := by decide +kernel
theorem dX8_ship_141 : decode cX8_ship 141 = .ok (.iload_n 2, 1) := by decide +kernel
theorem dX8_ship_142 : decode cX8_ship 142 = .ok (.if_icmp .le 12, 3) := by decide +kernel
theorem dX8_ship_145 : decode cX8_ship 145 = .ok (.iload_n 3, 1) := by decide +kernel
theorem dX8_ship_146 : decode cX8_ship 146 = .ok (.iload_n 2, 1) := by decide +kernel
theorem dX8_ship_147 : decode cX8_ship 147 = .ok (.if_icmp .gt 7, 3) := by decide +kernel
theorem dX8_ship_150 : decode cX8_ship 150 = .ok (.iconst 1, 1) := by decide +kernel
theorem dX8_ship_151 : decode cX8_ship 151 = .ok (.goto 5, 3) := by decide +kernel
theorem dX8_ship_154 : decode cX8_ship 154 = .ok (.bipush (-4), 2) := by decide +kernel
theorem dX8_ship_156 : decode cX8_ship 156 = .ok (.ireturn, 1) := by decide +kernel
theorem dX8_image_0 : decode cX8_image 0 = .ok (.aload_n 0, 1) := by decide +kernel
theorem dX8_image_1 : decode cX8_image 1 = .ok (.iconst 0, 1) := by decide +kernel
theorem dX8_image_2 : decode cX8_image 2 = .ok (.putfield 48, 3) := by decide +kernel
theorem dX8_image_5 : decode cX8_image 5 = .ok (.aload_n 0, 1) := by decide +kernel
theorem dX8_image_6 : decode cX8_image 6 = .ok (.getfield 7, 3) := by decide +kernel
theorem dX8_image_9 : decode cX8_image 9 = .ok (.aload_n 0, 1) := by decide +kernel
theorem dX8_image_10 : decode cX8_image 10 = .ok (.getfield 19, 3) := by decide +kernel
theorem dX8_image_13 : decode cX8_image 13 = .ok (.invokestatic 196, 3) := by decide +kernel
theorem dX8_image_16 : decode cX8_image 16 = .ok (.aload_n 0, 1) := by decide +kernel
theorem dX8_image_17 : decode cX8_image 17 = .ok (.iconst 1, 1) := by decide +kernel
theorem dX8_image_18 : decode cX8_image 18 = .ok (.putfield 230, 3) := by decide +kernel
theorem dX8_image_21 : decode cX8_image 21 = .ok (.iconst 1, 1) := by decide +kernel
theorem dX8_image_22 : decode cX8_image 22 = .ok (.ireturn, 1) := by decide +kernel
theorem dX8_restore_0 : decode cX8_restore 0 = .ok (.aload_n 0, 1) := by decide +kernel
theorem dX8_restore_1 : decode cX8_restore 1 = .ok (.iconst 0, 1) := by decide +kernel
theorem dX8_restore_2 : decode cX8_restore 2 = .ok (.putfield 48, 3) := by decide +kernel
theorem dX8_restore_5 : decode cX8_restore 5 = .ok (.aload_n 0, 1) := by decide +kernel
theorem dX8_restore_6 : decode cX8_restore 6 = .ok (.getfield 230, 3) := by decide +kernel
theorem dX8_restore_9 : decode cX8_restore 9 = .ok (.ifCond .ne 6, 3) := by decide +kernel
theorem dX8_restore_12 : decode cX8_restore 12 = .ok (.bipush (-4), 2) := by decide +kernel
theorem dX8_restore_14 : decode cX8_restore 14 = .ok (.ireturn, 1) := by decide +kernel
theorem dX8_restore_15 : decode cX8_restore 15 = .ok (.aload_n 0, 1) := by decide +kernel
theorem dX8_restore_16 : decode cX8_restore 16 = .ok (.getfield 19, 3) := by decide +kernel
theorem dX8_restore_19 : decode cX8_restore 19 = .ok (.aload_n 0, 1) := by decide +kernel
theorem dX8_restore_20 : decode cX8_restore 20 = .ok (.getfield 7, 3) := by decide +kernel
theorem dX8_restore_23 : decode cX8_restore 23 = .ok (.invokestatic 196, 3) := by decide +kernel
theorem dX8_restore_26 : decode cX8_restore 26 = .ok (.iconst 1, 1) := by decide +kernel
theorem dX8_restore_27 : decode cX8_restore 27 = .ok (.ireturn, 1) := by decide +kernel
theorem dX8_wrongOf_0 : decode cX8_wrongOf 0 = .ok (.aload_n 0, 1) := by decide +kernel
theorem dX8_wrongOf_1 : decode cX8_wrongOf 1 = .ok (.getfield 28, 3) := by decide +kernel
theorem dX8_wrongOf_4 : decode cX8_wrongOf 4 = .ok (.iload_n 1, 1) := by decide +kernel
theorem dX8_wrongOf_5 : decode cX8_wrongOf 5 = .ok (.iaload, 1) := by decide +kernel
theorem dX8_wrongOf_6 : decode cX8_wrongOf 6 = .ok (.ifCond .ge 6, 3) := by decide +kernel
theorem dX8_wrongOf_9 : decode cX8_wrongOf 9 = .ok (.bipush (-11), 2) := by decide +kernel
theorem dX8_wrongOf_11 : decode cX8_wrongOf 11 = .ok (.ireturn, 1) := by decide +kernel
theorem dX8_wrongOf_12 : decode cX8_wrongOf 12 = .ok (.aload_n 0, 1) := by decide +kernel
theorem dX8_wrongOf_13 : decode cX8_wrongOf 13 = .ok (.getfield 28, 3) := by decide +kernel
theorem dX8_wrongOf_16 : decode cX8_wrongOf 16 = .ok (.iload_n 1, 1) := by decide +kernel
theorem dX8_wrongOf_17 : decode cX8_wrongOf 17 = .ok (.iaload, 1) := by decide +kernel
theorem dX8_wrongOf_18 : decode cX8_wrongOf 18 = .ok (.iload_n 2, 1) := by decide +kernel
theorem dX8_wrongOf_19 : decode cX8_wrongOf 19 = .ok (.if_icmp .eq 6, 3) := by decide +kernel
theorem dX8_wrongOf_22 : decode cX8_wrongOf 22 = .ok (.bipush (-12), 2) := by decide +kernel
theorem dX8_wrongOf_24 : decode cX8_wrongOf 24 = .ok (.ireturn, 1) := by decide +kernel
theorem dX8_wrongOf_25 : decode cX8_wrongOf 25 = .ok (.iload_n 3, 1) := by decide +kernel
theorem dX8_wrongOf_26 : decode cX8_wrongOf 26 = .ok (.ifCond .lt 25, 3) := by decide +kernel
theorem dX8_wrongOf_29 : decode cX8_wrongOf 29 = .ok (.iload 4, 2) := by decide +kernel
theorem dX8_wrongOf_31 : decode cX8_wrongOf 31 = .ok (.ifCond .lt 20, 3) := by decide +kernel
theorem dX8_wrongOf_34 : decode cX8_wrongOf 34 = .ok (.iload_n 3, 1) := by decide +kernel
theorem dX8_wrongOf_35 : decode cX8_wrongOf 35 = .ok (.i2l, 1) := by decide +kernel
theorem dX8_wrongOf_36 : decode cX8_wrongOf 36 = .ok (.iload 4, 2) := by decide +kernel
theorem dX8_wrongOf_38 : decode cX8_wrongOf 38 = .ok (.i2l, 1) := by decide +kernel
theorem dX8_wrongOf_39 : decode cX8_wrongOf 39 = .ok (.ladd, 1) := by decide +kernel
theorem dX8_wrongOf_40 : decode cX8_wrongOf 40 = .ok (.aload_n 0, 1) := by decide +kernel
theorem dX8_wrongOf_41 : decode cX8_wrongOf 41 = .ok (.getfield 31, 3) := by decide +kernel
theorem dX8_wrongOf_44 : decode cX8_wrongOf 44 = .ok (.iload_n 1, 1) := by decide +kernel
theorem dX8_wrongOf_45 : decode cX8_wrongOf 45 = .ok (.iaload, 1) := by decide +kernel
theorem dX8_wrongOf_46 : decode cX8_wrongOf 46 = .ok (.i2l, 1) := by decide +kernel
theorem dX8_wrongOf_47 : decode cX8_wrongOf 47 = .ok (.lcmp, 1) := by decide +kernel
theorem dX8_wrongOf_48 : decode cX8_wrongOf 48 = .ok (.ifCond .le 8, 3) := by decide +kernel
theorem dX8_wrongOf_51 : decode cX8_wrongOf 51 = .ok (.bipush (-13), 2) := by decide +kernel
theorem dX8_wrongOf_53 : decode cX8_wrongOf 53 = .ok (.goto 4, 3) := by decide +kernel
theorem dX8_wrongOf_56 : decode cX8_wrongOf 56 = .ok (.iconst 0, 1) := by decide +kernel
theorem dX8_wrongOf_57 : decode cX8_wrongOf 57 = .ok (.ireturn, 1) := by decide +kernel
theorem dX8_isSheet_0 : decode cX8_isSheet 0 = .ok (.iload_n 0, 1) := by decide +kernel
theorem dX8_isSheet_1 : decode cX8_isSheet 1 = .ok (.i2l, 1) := by decide +kernel
theorem dX8_isSheet_2 : decode cX8_isSheet 2 = .ok (.lconst 0, 1) := by decide +kernel
theorem dX8_isSheet_3 : decode cX8_isSheet 3 = .ok (.ldc2_w 95, 3) := by decide +kernel
theorem dX8_isSheet_6 : decode cX8_isSheet 6 = .ok (.invokestatic 51, 3) := by decide +kernel
theorem dX8_isSheet_9 : decode cX8_isSheet 9 = .ok (.ifCond .eq 19, 3) := by decide +kernel
theorem dX8_isSheet_12 : decode cX8_isSheet 12 = .ok (.iload_n 1, 1) := by decide +kernel
theorem dX8_isSheet_13 : decode cX8_isSheet 13 = .ok (.i2l, 1) := by decide +kernel
theorem dX8_isSheet_14 : decode cX8_isSheet 14 = .ok (.lconst 0, 1) := by decide +kernel
theorem dX8_isSheet_15 : decode cX8_isSheet 15 = .ok (.ldc2_w 95, 3) := by decide +kernel
theorem dX8_isSheet_18 : decode cX8_isSheet 18 = .ok (.invokestatic 51, 3) := by decide +kernel
theorem dX8_isSheet_21 : decode cX8_isSheet 21 = .ok (.ifCond .eq 7, 3) := by decide +kernel
theorem dX8_isSheet_24 : decode cX8_isSheet 24 = .ok (.iconst 1, 1) := by decide +kernel
theorem dX8_isSheet_25 : decode cX8_isSheet 25 = .ok (.goto 4, 3) := by decide +kernel
theorem dX8_isSheet_28 : decode cX8_isSheet 28 = .ok (.iconst 0, 1) := by decide +kernel
theorem dX8_isSheet_29 : decode cX8_isSheet 29 = .ok (.ireturn, 1) := by decide +kernel
theorem dX8_delays_0 : decode cX8_delays 0 = .ok (.aload_n 0, 1) := by decide +kernel
theorem dX8_delays_1 : decode cX8_delays 1 = .ok (.iconst 0, 1) := by decide +kernel
theorem dX8_delays_2 : decode cX8_delays 2 = .ok (.putfield 48, 3) := by decide +kernel
theorem dX8_delays_5 : decode cX8_delays 5 = .ok (.aload_n 0, 1) := by decide +kernel
theorem dX8_delays_6 : decode cX8_delays 6 = .ok (.iload_n 1, 1) := by decide +kernel
theorem dX8_delays_7 : decode cX8_delays 7 = .ok (.invokevirtual 65, 3) := by decide +kernel
theorem dX8_delays_10 : decode cX8_delays 10 = .ok (.ifCond .eq 11, 3) := by decide +kernel
theorem dX8_delays_13 : decode cX8_delays 13 = .ok (.iload_n 2, 1) := by decide +kernel
theorem dX8_delays_14 : decode cX8_delays 14 = .ok (.iload_n 3, 1) := by decide +kernel
theorem dX8_delays_15 : decode cX8_delays 15 = .ok (.invokestatic 233, 3) := by decide +kernel
theorem dX8_delays_18 : decode cX8_delays 18 = .ok (.ifCond .ne 5, 3) := by decide +kernel
theorem dX8_delays_21 : decode cX8_delays 21 = .ok (.iconst (-1), 1) := by decide +kernel
theorem dX8_delays_22 : decode cX8_delays 22 = .ok (.ireturn, 1) := by decide +kernel
theorem dX8_delays_23 : decode cX8_delays 23 = .ok (.aload_n 0, 1) := by decide +kernel
theorem dX8_delays_24 : decode cX8_delays 24 = .ok (.iload_n 2, 1) := by decide +kernel
theorem dX8_delays_25 : decode cX8_delays 25 = .ok (.iload_n 3, 1) := by decide +kernel
theorem dX8_delays_26 : decode cX8_delays 26 = .ok (.iload 4, 2) := by decide +kernel
theorem dX8_delays_28 : decode cX8_delays 28 = .ok (.aload_n 0, 1) := by decide +kernel
theorem dX8_delays_29 : decode cX8_delays 29 = .ok (.getfield 7, 3) := by decide +kernel
theorem dX8_delays_32 : decode cX8_delays 32 = .ok (.iconst 0, 1) := by decide +kernel
theorem dX8_delays_33 : decode cX8_delays 33 = .ok (.iaload, 1) := by decide +kernel
theorem dX8_delays_34 : decode cX8_delays 34 = .ok (.invokevirtual 236, 3) := by decide +kernel
theorem dX8_delays_37 : decode cX8_delays 37 = .ok (.istore 5, 2) := by decide +kernel
theorem dX8_delays_39 : decode cX8_delays 39 = .ok (.iload 5, 2) := by decide +kernel
theorem dX8_delays_41 : decode cX8_delays 41 = .ok (.ifCond .eq 6, 3) := by decide +kernel
theorem dX8_delays_44 : decode cX8_delays 44 = .ok (.iload 5, 2) := by decide +kernel
theorem dX8_delays_46 : decode cX8_delays 46 = .ok (.ireturn, 1) := by decide +kernel
theorem dX8_delays_47 : decode cX8_delays 47 = .ok (.iconst 0, 1) := by decide +kernel
theorem dX8_delays_48 : decode cX8_delays 48 = .ok (.istore 6, 2) := by decide +kernel
theorem dX8_delays_50 : decode cX8_delays 50 = .ok (.iload 6, 2) := by decide +kernel
theorem dX8_delays_52 : decode cX8_delays 52 = .ok (.aload_n 0, 1) := by decide +kernel
theorem dX8_delays_53 : decode cX8_delays 53 = .ok (.getfield 7, 3) := by decide +kernel
theorem dX8_delays_56 : decode cX8_delays 56 = .ok (.iconst 0, 1) := by decide +kernel
theorem dX8_delays_57 : decode cX8_delays 57 = .ok (.iaload, 1) := by decide +kernel
theorem dX8_delays_58 : decode cX8_delays 58 = .ok (.if_icmp .ge 43, 3) := by decide +kernel
theorem dX8_delays_61 : decode cX8_delays 61 = .ok (.iload 6, 2) := by decide +kernel
theorem dX8_delays_63 : decode cX8_delays 63 = .ok (.iload_n 1, 1) := by decide +kernel
theorem dX8_delays_64 : decode cX8_delays 64 = .ok (.if_icmp .eq 31, 3) := by decide +kernel
theorem dX8_delays_67 : decode cX8_delays 67 = .ok (.aload_n 0, 1) := by decide +kernel
theorem dX8_delays_68 : decode cX8_delays 68 = .ok (.getfield 34, 3) := by decide +kernel
theorem dX8_delays_71 : decode cX8_delays 71 = .ok (.bipush 24, 2) := by decide +kernel
theorem dX8_delays_73 : decode cX8_delays 73 = .ok (.iload_n 2, 1) := by decide +kernel
theorem dX8_delays_74 : decode cX8_delays 74 = .ok (.imul, 1) := by decide +kernel
theorem dX8_delays_75 : decode cX8_delays 75 = .ok (.iload 4, 2) := by decide +kernel
theorem dX8_delays_77 : decode cX8_delays 77 = .ok (.iadd, 1) := by decide +kernel
theorem dX8_delays_78 : decode cX8_delays 78 = .ok (.iload 6, 2) := by decide +kernel
theorem dX8_delays_80 : decode cX8_delays 80 = .ok (.iadd, 1) := by decide +kernel
theorem dX8_delays_81 : decode cX8_delays 81 = .ok (.laload, 1) := by decide +kernel
theorem dX8_delays_82 : decode cX8_delays 82 = .ok (.lconst 1, 1) := by decide +kernel
theorem dX8_delays_83 : decode cX8_delays 83 = .ok (.ldc2_w 77, 3) := by decide +kernel
theorem dX8_delays_86 : decode cX8_delays 86 = .ok (.invokestatic 51, 3) := by decide +kernel
theorem dX8_delays_89 : decode cX8_delays 89 = .ok (.ifCond .ne 6, 3) := by decide +kernel
theorem dX8_delays_92 : decode cX8_delays 92 = .ok (.bipush (-2), 2) := by decide +kernel
theorem dX8_delays_94 : decode cX8_delays 94 = .ok (.ireturn, 1) := by decide +kernel
theorem dX8_delays_95 : decode cX8_delays 95 = .ok (.iinc 6 1, 3) := by decide +kernel
theorem dX8_delays_98 : decode cX8_delays 98 = .ok (.goto (-48), 3) := by decide +kernel
theorem dX8_delays_101 : decode cX8_delays 101 = .ok (.iconst 0, 1) := by decide +kernel
theorem dX8_delays_102 : decode cX8_delays 102 = .ok (.istore 6, 2) := by decide +kernel
theorem dX8_delays_104 : decode cX8_delays 104 = .ok (.iload 6, 2) := by decide +kernel
theorem dX8_delays_106 : decode cX8_delays 106 = .ok (.aload_n 0, 1) := by decide +kernel
theorem dX8_delays_107 : decode cX8_delays 107 = .ok (.getfield 7, 3) := by decide +kernel
theorem dX8_delays_110 : decode cX8_delays 110 = .ok (.iconst 0, 1) := by decide +kernel
theorem dX8_delays_111 : decode cX8_delays 111 = .ok (.iaload, 1) := by decide +kernel
theorem dX8_delays_112 : decode cX8_delays 112 = .ok (.if_icmp .ge 46, 3) := by decide +kernel
theorem dX8_delays_115 : decode cX8_delays 115 = .ok (.iload 6, 2) := by decide +kernel
theorem dX8_delays_117 : decode cX8_delays 117 = .ok (.iload_n 1, 1) := by decide +kernel
theorem dX8_delays_118 : decode cX8_delays 118 = .ok (.if_icmp .eq 34, 3) := by decide +kernel
theorem dX8_delays_121 : decode cX8_delays 121 = .ok (.aload_n 0, 1) := by decide +kernel
theorem dX8_delays_122 : decode cX8_delays 122 = .ok (.getfield 7, 3) := by decide +kernel
theorem dX8_delays_125 : decode cX8_delays 125 = .ok (.bipush 60, 2) := by decide +kernel
theorem dX8_delays_127 : decode cX8_delays 127 = .ok (.bipush 9, 2) := by decide +kernel
theorem dX8_delays_129 : decode cX8_delays 129 = .ok (.iload_n 1, 1) := by decide +kernel
theorem dX8_delays_130 : decode cX8_delays 130 = .ok (.imul, 1) := by decide +kernel
theorem dX8_delays_131 : decode cX8_delays 131 = .ok (.iadd, 1) := by decide +kernel
theorem dX8_delays_132 : decode cX8_delays 132 = .ok (.iload 6, 2) := by decide +kernel
theorem dX8_delays_134 : decode cX8_delays 134 = .ok (.iadd, 1) := by decide +kernel
theorem dX8_delays_135 : decode cX8_delays 135 = .ok (.aload_n 0, 1) := by decide +kernel
theorem dX8_delays_136 : decode cX8_delays 136 = .ok (.getfield 34, 3) := by decide +kernel
theorem dX8_delays_139 : decode cX8_delays 139 = .ok (.bipush 24, 2) := by decide +kernel
theorem dX8_delays_141 : decode cX8_delays 141 = .ok (.iload_n 2, 1) := by decide +kernel
theorem dX8_delays_142 : decode cX8_delays 142 = .ok (.imul, 1) := by decide +kernel
theorem dX8_delays_143 : decode cX8_delays 143 = .ok (.iload 4, 2) := by decide +kernel
theorem dX8_delays_145 : decode cX8_delays 145 = .ok (.iadd, 1) := by decide +kernel
theorem dX8_delays_146 : decode cX8_delays 146 = .ok (.iload 6, 2) := by decide +kernel
theorem dX8_delays_148 : decode cX8_delays 148 = .ok (.iadd, 1) := by decide +kernel
theorem dX8_delays_149 : decode cX8_delays 149 = .ok (.laload, 1) := by decide +kernel
theorem dX8_delays_150 : decode cX8_delays 150 = .ok (.l2i, 1) := by decide +kernel
theorem dX8_delays_151 : decode cX8_delays 151 = .ok (.iastore, 1) := by decide +kernel
theorem dX8_delays_152 : decode cX8_delays 152 = .ok (.iinc 6 1, 3) := by decide +kernel
theorem dX8_delays_155 : decode cX8_delays 155 = .ok (.goto (-51), 3) := by decide +kernel
theorem dX8_delays_158 : decode cX8_delays 158 = .ok (.aload_n 0, 1) := by decide +kernel
theorem dX8_delays_159 : decode cX8_delays 159 = .ok (.getfield 7, 3) := by decide +kernel
theorem dX8_delays_162 : decode cX8_delays 162 = .ok (.iconst 0, 1) := by decide +kernel
theorem dX8_delays_163 : decode cX8_delays 163 = .ok (.iaload, 1) := by decide +kernel
theorem dX8_delays_164 : decode cX8_delays 164 = .ok (.ireturn, 1) := by decide +kernel
theorem dX8_film_0 : decode cX8_film 0 = .ok (.aload_n 0, 1) := by decide +kernel
theorem dX8_film_1 : decode cX8_film 1 = .ok (.iconst 0, 1) := by decide +kernel
theorem dX8_film_2 : decode cX8_film 2 = .ok (.putfield 48, 3) := by decide +kernel
theorem dX8_film_5 : decode cX8_film 5 = .ok (.iload_n 1, 1) := by decide +kernel
theorem dX8_film_6 : decode cX8_film 6 = .ok (.iload_n 2, 1) := by decide +kernel
theorem dX8_film_7 : decode cX8_film 7 = .ok (.invokestatic 233, 3) := by decide +kernel
theorem dX8_film_10 : decode cX8_film 10 = .ok (.ifCond .ne 5, 3) := by decide +kernel
theorem dX8_film_13 : decode cX8_film 13 = .ok (.iconst (-1), 1) := by decide +kernel
theorem dX8_film_14 : decode cX8_film 14 = .ok (.ireturn, 1) := by decide +kernel
theorem dX8_film_15 : decode cX8_film 15 = .ok (.aload_n 0, 1) := by decide +kernel
theorem dX8_film_16 : decode cX8_film 16 = .ok (.iload_n 1, 1) := by decide +kernel
theorem dX8_film_17 : decode cX8_film 17 = .ok (.iload_n 2, 1) := by decide +kernel
theorem dX8_film_18 : decode cX8_film 18 = .ok (.iload_n 3, 1) := by decide +kernel
theorem dX8_film_19 : decode cX8_film 19 = .ok (.aload_n 0, 1) := by decide +kernel
theorem dX8_film_20 : decode cX8_film 20 = .ok (.getfield 7, 3) := by decide +kernel
theorem dX8_film_23 : decode cX8_film 23 = .ok (.iconst 0, 1) := by decide +kernel
theorem dX8_film_24 : decode cX8_film 24 = .ok (.iaload, 1) := by decide +kernel
theorem dX8_film_25 : decode cX8_film 25 = .ok (.invokevirtual 236, 3) := by decide +kernel
theorem dX8_film_28 : decode cX8_film 28 = .ok (.istore 4, 2) := by decide +kernel
theorem dX8_film_30 : decode cX8_film 30 = .ok (.iload 4, 2) := by decide +kernel
theorem dX8_film_32 : decode cX8_film 32 = .ok (.ifCond .eq 6, 3) := by decide +kernel
theorem dX8_film_35 : decode cX8_film 35 = .ok (.iload 4, 2) := by decide +kernel
theorem dX8_film_37 : decode cX8_film 37 = .ok (.ireturn, 1) := by decide +kernel
theorem dX8_film_38 : decode cX8_film 38 = .ok (.iconst 0, 1) := by decide +kernel
theorem dX8_film_39 : decode cX8_film 39 = .ok (.istore 5, 2) := by decide +kernel
theorem dX8_film_41 : decode cX8_film 41 = .ok (.iload 5, 2) := by decide +kernel
theorem dX8_film_43 : decode cX8_film 43 = .ok (.aload_n 0, 1) := by decide +kernel
theorem dX8_film_44 : decode cX8_film 44 = .ok (.getfield 7, 3) := by decide +kernel
theorem dX8_film_47 : decode cX8_film 47 = .ok (.iconst 0, 1) := by decide +kernel
theorem dX8_film_48 : decode cX8_film 48 = .ok (.iaload, 1) := by decide +kernel
theorem dX8_film_49 : decode cX8_film 49 = .ok (.if_icmp .ge 39, 3) := by decide +kernel
theorem dX8_film_52 : decode cX8_film 52 = .ok (.aload_n 0, 1) := by decide +kernel
theorem dX8_film_53 : decode cX8_film 53 = .ok (.getfield 34, 3) := by decide +kernel
theorem dX8_film_56 : decode cX8_film 56 = .ok (.bipush 24, 2) := by decide +kernel
theorem dX8_film_58 : decode cX8_film 58 = .ok (.iload_n 1, 1) := by decide +kernel
theorem dX8_film_59 : decode cX8_film 59 = .ok (.imul, 1) := by decide +kernel
theorem dX8_film_60 : decode cX8_film 60 = .ok (.iload_n 3, 1) := by decide +kernel
theorem dX8_film_61 : decode cX8_film 61 = .ok (.iadd, 1) := by decide +kernel
theorem dX8_film_62 : decode cX8_film 62 = .ok (.iload 5, 2) := by decide +kernel
theorem dX8_film_64 : decode cX8_film 64 = .ok (.iadd, 1) := by decide +kernel
theorem dX8_film_65 : decode cX8_film 65 = .ok (.aload_n 0, 1) := by decide +kernel
theorem dX8_film_66 : decode cX8_film 66 = .ok (.getfield 7, 3) := by decide +kernel
theorem dX8_film_69 : decode cX8_film 69 = .ok (.bipush 6, 2) := by decide +kernel
theorem dX8_film_71 : decode cX8_film 71 = .ok (.bipush 6, 2) := by decide +kernel
theorem dX8_film_73 : decode cX8_film 73 = .ok (.iload 5, 2) := by decide +kernel
theorem dX8_film_75 : decode cX8_film 75 = .ok (.imul, 1) := by decide +kernel
theorem dX8_film_76 : decode cX8_film 76 = .ok (.iadd, 1) := by decide +kernel
theorem dX8_film_77 : decode cX8_film 77 = .ok (.iconst 2, 1) := by decide +kernel
theorem dX8_film_78 : decode cX8_film 78 = .ok (.iadd, 1) := by decide +kernel
theorem dX8_film_79 : decode cX8_film 79 = .ok (.iaload, 1) := by decide +kernel
theorem dX8_film_80 : decode cX8_film 80 = .ok (.i2l, 1) := by decide +kernel
theorem dX8_film_81 : decode cX8_film 81 = .ok (.lastore, 1) := by decide +kernel
theorem dX8_film_82 : decode cX8_film 82 = .ok (.iinc 5 1, 3) := by decide +kernel
theorem dX8_film_85 : decode cX8_film 85 = .ok (.goto (-44), 3) := by decide +kernel
theorem dX8_film_88 : decode cX8_film 88 = .ok (.aload_n 0, 1) := by decide +kernel
theorem dX8_film_89 : decode cX8_film 89 = .ok (.getfield 7, 3) := by decide +kernel
theorem dX8_film_92 : decode cX8_film 92 = .ok (.iconst 0, 1) := by decide +kernel
theorem dX8_film_93 : decode cX8_film 93 = .ok (.iaload, 1) := by decide +kernel
theorem dX8_film_94 : decode cX8_film 94 = .ok (.ireturn, 1) := by decide +kernel
theorem dX8_seen_0 : decode cX8_seen 0 = .ok (.aload_n 0, 1) := by decide +kernel
theorem dX8_seen_1 : decode cX8_seen 1 = .ok (.iconst 0, 1) := by decide +kernel
theorem dX8_seen_2 : decode cX8_seen 2 = .ok (.putfield 48, 3) := by decide +kernel
theorem dX8_seen_5 : decode cX8_seen 5 = .ok (.iload_n 1, 1) := by decide +kernel
theorem dX8_seen_6 : decode cX8_seen 6 = .ok (.iload_n 2, 1) := by decide +kernel
theorem dX8_seen_7 : decode cX8_seen 7 = .ok (.invokestatic 233, 3) := by decide +kernel
theorem dX8_seen_10 : decode cX8_seen 10 = .ok (.ifCond .ne 5, 3) := by decide +kernel
theorem dX8_seen_13 : decode cX8_seen 13 = .ok (.iconst (-1), 1) := by decide +kernel
theorem dX8_seen_14 : decode cX8_seen 14 = .ok (.ireturn, 1) := by decide +kernel
theorem dX8_seen_15 : decode cX8_seen 15 = .ok (.aload_n 0, 1) := by decide +kernel
theorem dX8_seen_16 : decode cX8_seen 16 = .ok (.iload_n 1, 1) := by decide +kernel
theorem dX8_seen_17 : decode cX8_seen 17 = .ok (.iload_n 2, 1) := by decide +kernel
theorem dX8_seen_18 : decode cX8_seen 18 = .ok (.iload_n 3, 1) := by decide +kernel
theorem dX8_seen_19 : decode cX8_seen 19 = .ok (.aload_n 0, 1) := by decide +kernel
theorem dX8_seen_20 : decode cX8_seen 20 = .ok (.getfield 7, 3) := by decide +kernel
theorem dX8_seen_23 : decode cX8_seen 23 = .ok (.iconst 0, 1) := by decide +kernel
theorem dX8_seen_24 : decode cX8_seen 24 = .ok (.iaload, 1) := by decide +kernel
theorem dX8_seen_25 : decode cX8_seen 25 = .ok (.invokevirtual 236, 3) := by decide +kernel
theorem dX8_seen_28 : decode cX8_seen 28 = .ok (.istore 4, 2) := by decide +kernel
theorem dX8_seen_30 : decode cX8_seen 30 = .ok (.iload 4, 2) := by decide +kernel
theorem dX8_seen_32 : decode cX8_seen 32 = .ok (.ifCond .eq 6, 3) := by decide +kernel
theorem dX8_seen_35 : decode cX8_seen 35 = .ok (.iload 4, 2) := by decide +kernel
theorem dX8_seen_37 : decode cX8_seen 37 = .ok (.ireturn, 1) := by decide +kernel
theorem dX8_seen_38 : decode cX8_seen 38 = .ok (.aload_n 0, 1) := by decide +kernel
theorem dX8_seen_39 : decode cX8_seen 39 = .ok (.getfield 7, 3) := by decide +kernel
theorem dX8_seen_42 : decode cX8_seen 42 = .ok (.aload_n 0, 1) := by decide +kernel
theorem dX8_seen_43 : decode cX8_seen 43 = .ok (.getfield 16, 3) := by decide +kernel
theorem dX8_seen_46 : decode cX8_seen 46 = .ok (.invokestatic 196, 3) := by decide +kernel
theorem dX8_seen_49 : decode cX8_seen 49 = .ok (.iconst 0, 1) := by decide +kernel
theorem dX8_seen_50 : decode cX8_seen 50 = .ok (.istore 5, 2) := by decide +kernel
theorem dX8_seen_52 : decode cX8_seen 52 = .ok (.iload 5, 2) := by decide +kernel
theorem dX8_seen_54 : decode cX8_seen 54 = .ok (.bipush 61, 2) := by decide +kernel
theorem dX8_seen_56 : decode cX8_seen 56 = .ok (.if_icmp .ge 94, 3) := by decide +kernel
theorem dX8_seen_59 : decode cX8_seen 59 = .ok (.iconst 1, 1) := by decide +kernel
theorem dX8_seen_60 : decode cX8_seen 60 = .ok (.istore 6, 2) := by decide +kernel
theorem dX8_seen_62 : decode cX8_seen 62 = .ok (.iconst 0, 1) := by decide +kernel
theorem dX8_seen_63 : decode cX8_seen 63 = .ok (.istore 7, 2) := by decide +kernel
theorem dX8_seen_65 : decode cX8_seen 65 = .ok (.iload 7, 2) := by decide +kernel
theorem dX8_seen_67 : decode cX8_seen 67 = .ok (.aload_n 0, 1) := by decide +kernel
theorem dX8_seen_68 : decode cX8_seen 68 = .ok (.getfield 7, 3) := by decide +kernel
theorem dX8_seen_71 : decode cX8_seen 71 = .ok (.iconst 0, 1) := by decide +kernel
theorem dX8_seen_72 : decode cX8_seen 72 = .ok (.iaload, 1) := by decide +kernel
theorem dX8_seen_73 : decode cX8_seen 73 = .ok (.if_icmp .ge 55, 3) := by decide +kernel
theorem dX8_seen_76 : decode cX8_seen 76 = .ok (.iload 6, 2) := by decide +kernel
theorem dX8_seen_78 : decode cX8_seen 78 = .ok (.ifCond .eq 41, 3) := by decide +kernel
theorem dX8_seen_81 : decode cX8_seen 81 = .ok (.aload_n 0, 1) := by decide +kernel
theorem dX8_seen_82 : decode cX8_seen 82 = .ok (.getfield 34, 3) := by decide +kernel
theorem dX8_seen_85 : decode cX8_seen 85 = .ok (.bipush 24, 2) := by decide +kernel
theorem dX8_seen_87 : decode cX8_seen 87 = .ok (.iload_n 1, 1) := by decide +kernel
theorem dX8_seen_88 : decode cX8_seen 88 = .ok (.imul, 1) := by decide +kernel
theorem dX8_seen_89 : decode cX8_seen 89 = .ok (.iload_n 3, 1) := by decide +kernel
theorem dX8_seen_90 : decode cX8_seen 90 = .ok (.iadd, 1) := by decide +kernel
theorem dX8_seen_91 : decode cX8_seen 91 = .ok (.iload 7, 2) := by decide +kernel
theorem dX8_seen_93 : decode cX8_seen 93 = .ok (.iadd, 1) := by decide +kernel
theorem dX8_seen_94 : decode cX8_seen 94 = .ok (.laload, 1) := by decide +kernel
theorem dX8_seen_95 : decode cX8_seen 95 = .ok (.aload_n 0, 1) := by decide +kernel
theorem dX8_seen_96 : decode cX8_seen 96 = .ok (.getfield 16, 3) := by decide +kernel
theorem dX8_seen_99 : decode cX8_seen 99 = .ok (.bipush 6, 2) := by decide +kernel
theorem dX8_seen_101 : decode cX8_seen 101 = .ok (.bipush 6, 2) := by decide +kernel
theorem dX8_seen_103 : decode cX8_seen 103 = .ok (.iload 7, 2) := by decide +kernel
theorem dX8_seen_105 : decode cX8_seen 105 = .ok (.imul, 1) := by decide +kernel
theorem dX8_seen_106 : decode cX8_seen 106 = .ok (.iadd, 1) := by decide +kernel
theorem dX8_seen_107 : decode cX8_seen 107 = .ok (.iconst 2, 1) := by decide +kernel
theorem dX8_seen_108 : decode cX8_seen 108 = .ok (.iadd, 1) := by decide +kernel
theorem dX8_seen_109 : decode cX8_seen 109 = .ok (.iaload, 1) := by decide +kernel
theorem dX8_seen_110 : decode cX8_seen 110 = .ok (.i2l, 1) := by decide +kernel
theorem dX8_seen_111 : decode cX8_seen 111 = .ok (.lcmp, 1) := by decide +kernel
theorem dX8_seen_112 : decode cX8_seen 112 = .ok (.ifCond .ne 7, 3) := by decide +kernel
theorem dX8_seen_115 : decode cX8_seen 115 = .ok (.iconst 1, 1) := by decide +kernel
theorem dX8_seen_116 : decode cX8_seen 116 = .ok (.goto 4, 3) := by decide +kernel
theorem dX8_seen_119 : decode cX8_seen 119 = .ok (.iconst 0, 1) := by decide +kernel
theorem dX8_seen_120 : decode cX8_seen 120 = .ok (.istore 6, 2) := by decide +kernel
theorem dX8_seen_122 : decode cX8_seen 122 = .ok (.iinc 7 1, 3) := by decide +kernel
theorem dX8_seen_125 : decode cX8_seen 125 = .ok (.goto (-60), 3) := by decide +kernel
theorem dX8_seen_128 : decode cX8_seen 128 = .ok (.iload 6, 2) := by decide +kernel
theorem dX8_seen_130 : decode cX8_seen 130 = .ok (.ifCond .eq 6, 3) := by decide +kernel
theorem dX8_seen_133 : decode cX8_seen 133 = .ok (.iload 5, 2) := by decide +kernel
theorem dX8_seen_135 : decode cX8_seen 135 = .ok (.ireturn, 1) := by decide +kernel
theorem dX8_seen_136 : decode cX8_seen 136 = .ok (.aload_n 0, 1) := by decide +kernel
theorem dX8_seen_137 : decode cX8_seen 137 = .ok (.aload_n 0, 1) := by decide +kernel
theorem dX8_seen_138 : decode cX8_seen 138 = .ok (.getfield 16, 3) := by decide +kernel
theorem dX8_seen_141 : decode cX8_seen 141 = .ok (.invokevirtual 187, 3) := by decide +kernel
theorem dX8_seen_144 : decode cX8_seen 144 = .ok (.iinc 5 1, 3) := by decide +kernel
theorem dX8_seen_147 : decode cX8_seen 147 = .ok (.goto (-95), 3) := by decide +kernel
theorem dX8_seen_150 : decode cX8_seen 150 = .ok (.bipush (-4), 2) := by decide +kernel
theorem dX8_seen_152 : decode cX8_seen 152 = .ok (.ireturn, 1) := by decide +kernel
theorem dX8_sheet_0 : decode cX8_sheet 0 = .ok (.aload_n 0, 1) := by decide +kernel
theorem dX8_sheet_1 : decode cX8_sheet 1 = .ok (.iconst 0, 1) := by decide +kernel
theorem dX8_sheet_2 : decode cX8_sheet 2 = .ok (.putfield 48, 3) := by decide +kernel
theorem dX8_sheet_5 : decode cX8_sheet 5 = .ok (.iload_n 1, 1) := by decide +kernel
theorem dX8_sheet_6 : decode cX8_sheet 6 = .ok (.iload_n 2, 1) := by decide +kernel
theorem dX8_sheet_7 : decode cX8_sheet 7 = .ok (.invokestatic 233, 3) := by decide +kernel
theorem dX8_sheet_10 : decode cX8_sheet 10 = .ok (.ifCond .eq 9, 3) := by decide +kernel
theorem dX8_sheet_13 : decode cX8_sheet 13 = .ok (.iload_n 3, 1) := by decide +kernel
theorem dX8_sheet_14 : decode cX8_sheet 14 = .ok (.bipush 24, 2) := by decide +kernel
theorem dX8_sheet_16 : decode cX8_sheet 16 = .ok (.if_icmp .le 5, 3) := by decide +kernel
theorem dX8_sheet_19 : decode cX8_sheet 19 = .ok (.iconst (-1), 1) := by decide +kernel
theorem dX8_sheet_20 : decode cX8_sheet 20 = .ok (.ireturn, 1) := by decide +kernel
theorem dX8_sheet_21 : decode cX8_sheet 21 = .ok (.iload_n 3, 1) := by decide +kernel
theorem dX8_sheet_22 : decode cX8_sheet 22 = .ok (.ifCond .ge 6, 3) := by decide +kernel
theorem dX8_sheet_25 : decode cX8_sheet 25 = .ok (.bipush (-14), 2) := by decide +kernel
theorem dX8_sheet_27 : decode cX8_sheet 27 = .ok (.ireturn, 1) := by decide +kernel
theorem dX8_sheet_28 : decode cX8_sheet 28 = .ok (.aload_n 0, 1) := by decide +kernel
theorem dX8_sheet_29 : decode cX8_sheet 29 = .ok (.getfield 28, 3) := by decide +kernel
theorem dX8_sheet_32 : decode cX8_sheet 32 = .ok (.iload_n 1, 1) := by decide +kernel
theorem dX8_sheet_33 : decode cX8_sheet 33 = .ok (.iload_n 2, 1) := by decide +kernel
theorem dX8_sheet_34 : decode cX8_sheet 34 = .ok (.iastore, 1) := by decide +kernel
theorem dX8_sheet_35 : decode cX8_sheet 35 = .ok (.aload_n 0, 1) := by decide +kernel
theorem dX8_sheet_36 : decode cX8_sheet 36 = .ok (.getfield 31, 3) := by decide +kernel
theorem dX8_sheet_39 : decode cX8_sheet 39 = .ok (.iload_n 1, 1) := by decide +kernel
theorem dX8_sheet_40 : decode cX8_sheet 40 = .ok (.iload_n 3, 1) := by decide +kernel
theorem dX8_sheet_41 : decode cX8_sheet 41 = .ok (.iastore, 1) := by decide +kernel
theorem dX8_sheet_42 : decode cX8_sheet 42 = .ok (.iconst 0, 1) := by decide +kernel
theorem dX8_sheet_43 : decode cX8_sheet 43 = .ok (.istore 4, 2) := by decide +kernel
theorem dX8_sheet_45 : decode cX8_sheet 45 = .ok (.iload 4, 2) := by decide +kernel
theorem dX8_sheet_47 : decode cX8_sheet 47 = .ok (.bipush 24, 2) := by decide +kernel
theorem dX8_sheet_49 : decode cX8_sheet 49 = .ok (.if_icmp .ge 22, 3) := by decide +kernel
theorem dX8_sheet_52 : decode cX8_sheet 52 = .ok (.aload_n 0, 1) := by decide +kernel
theorem dX8_sheet_53 : decode cX8_sheet 53 = .ok (.getfield 34, 3) := by decide +kernel
theorem dX8_sheet_56 : decode cX8_sheet 56 = .ok (.bipush 24, 2) := by decide +kernel
theorem dX8_sheet_58 : decode cX8_sheet 58 = .ok (.iload_n 1, 1) := by decide +kernel
theorem dX8_sheet_59 : decode cX8_sheet 59 = .ok (.imul, 1) := by decide +kernel
theorem dX8_sheet_60 : decode cX8_sheet 60 = .ok (.iload 4, 2) := by decide +kernel
theorem dX8_sheet_62 : decode cX8_sheet 62 = .ok (.iadd, 1) := by decide +kernel
theorem dX8_sheet_63 : decode cX8_sheet 63 = .ok (.lconst 0, 1) := by decide +kernel
theorem dX8_sheet_64 : decode cX8_sheet 64 = .ok (.lastore, 1) := by decide +kernel
theorem dX8_sheet_65 : decode cX8_sheet 65 = .ok (.iinc 4 1, 3) := by decide +kernel
theorem dX8_sheet_68 : decode cX8_sheet 68 = .ok (.goto (-23), 3) := by decide +kernel
theorem dX8_sheet_71 : decode cX8_sheet 71 = .ok (.iload_n 3, 1) := by decide +kernel
theorem dX8_sheet_72 : decode cX8_sheet 72 = .ok (.ireturn, 1) := by decide +kernel
theorem dX8_drop_0 : decode cX8_drop 0 = .ok (.aload_n 0, 1) := by decide +kernel
theorem dX8_drop_1 : decode cX8_drop 1 = .ok (.iconst 0, 1) := by decide +kernel
theorem dX8_drop_2 : decode cX8_drop 2 = .ok (.putfield 48, 3) := by decide +kernel
theorem dX8_drop_5 : decode cX8_drop 5 = .ok (.iload_n 1, 1) := by decide +kernel
theorem dX8_drop_6 : decode cX8_drop 6 = .ok (.i2l, 1) := by decide +kernel
theorem dX8_drop_7 : decode cX8_drop 7 = .ok (.lconst 0, 1) := by decide +kernel
theorem dX8_drop_8 : decode cX8_drop 8 = .ok (.ldc2_w 95, 3) := by decide +kernel
theorem dX8_drop_11 : decode cX8_drop 11 = .ok (.invokestatic 51, 3) := by decide +kernel
theorem dX8_drop_14 : decode cX8_drop 14 = .ok (.ifCond .ne 5, 3) := by decide +kernel
theorem dX8_drop_17 : decode cX8_drop 17 = .ok (.iconst (-1), 1) := by decide +kernel
theorem dX8_drop_18 : decode cX8_drop 18 = .ok (.ireturn, 1) := by decide +kernel
theorem dX8_drop_19 : decode cX8_drop 19 = .ok (.aload_n 0, 1) := by decide +kernel
theorem dX8_drop_20 : decode cX8_drop 20 = .ok (.getfield 28, 3) := by decide +kernel
theorem dX8_drop_23 : decode cX8_drop 23 = .ok (.iload_n 1, 1) := by decide +kernel
theorem dX8_drop_24 : decode cX8_drop 24 = .ok (.iaload, 1) := by decide +kernel
theorem dX8_drop_25 : decode cX8_drop 25 = .ok (.ifCond .ge 6, 3) := by decide +kernel
theorem dX8_drop_28 : decode cX8_drop 28 = .ok (.bipush (-11), 2) := by decide +kernel
theorem dX8_drop_30 : decode cX8_drop 30 = .ok (.ireturn, 1) := by decide +kernel
theorem dX8_drop_31 : decode cX8_drop 31 = .ok (.aload_n 0, 1) := by decide +kernel
theorem dX8_drop_32 : decode cX8_drop 32 = .ok (.getfield 28, 3) := by decide +kernel
theorem dX8_drop_35 : decode cX8_drop 35 = .ok (.iload_n 1, 1) := by decide +kernel
theorem dX8_drop_36 : decode cX8_drop 36 = .ok (.iconst (-1), 1) := by decide +kernel
theorem dX8_drop_37 : decode cX8_drop 37 = .ok (.iastore, 1) := by decide +kernel
theorem dX8_drop_38 : decode cX8_drop 38 = .ok (.aload_n 0, 1) := by decide +kernel
theorem dX8_drop_39 : decode cX8_drop 39 = .ok (.getfield 31, 3) := by decide +kernel
theorem dX8_drop_42 : decode cX8_drop 42 = .ok (.iload_n 1, 1) := by decide +kernel
theorem dX8_drop_43 : decode cX8_drop 43 = .ok (.iaload, 1) := by decide +kernel
theorem dX8_drop_44 : decode cX8_drop 44 = .ok (.ireturn, 1) := by decide +kernel
theorem dX8_cut_0 : decode cX8_cut 0 = .ok (.iload_n 0, 1) := by decide +kernel
theorem dX8_cut_1 : decode cX8_cut 1 = .ok (.ifCond .ne 10, 3) := by decide +kernel
theorem dX8_cut_4 : decode cX8_cut 4 = .ok (.lload_n 1, 1) := by decide +kernel
theorem dX8_cut_5 : decode cX8_cut 5 = .ok (.l2i, 1) := by decide +kernel
theorem dX8_cut_6 : decode cX8_cut 6 = .ok (.i2b, 1) := by decide +kernel
theorem dX8_cut_7 : decode cX8_cut 7 = .ok (.i2l, 1) := by decide +kernel
theorem dX8_cut_8 : decode cX8_cut 8 = .ok (.goto 27, 3) := by decide +kernel
theorem dX8_cut_11 : decode cX8_cut 11 = .ok (.iload_n 0, 1) := by decide +kernel
theorem dX8_cut_12 : decode cX8_cut 12 = .ok (.iconst 1, 1) := by decide +kernel
theorem dX8_cut_13 : decode cX8_cut 13 = .ok (.if_icmp .ne 10, 3) := by decide +kernel
theorem dX8_cut_16 : decode cX8_cut 16 = .ok (.lload_n 1, 1) := by decide +kernel
theorem dX8_cut_17 : decode cX8_cut 17 = .ok (.l2i, 1) := by decide +kernel
theorem dX8_cut_18 : decode cX8_cut 18 = .ok (.i2s, 1) := by decide +kernel
theorem dX8_cut_19 : decode cX8_cut 19 = .ok (.i2l, 1) := by decide +kernel
theorem dX8_cut_20 : decode cX8_cut 20 = .ok (.goto 15, 3) := by decide +kernel
theorem dX8_cut_23 : decode cX8_cut 23 = .ok (.iload_n 0, 1) := by decide +kernel
theorem dX8_cut_24 : decode cX8_cut 24 = .ok (.iconst 2, 1) := by decide +kernel
theorem dX8_cut_25 : decode cX8_cut 25 = .ok (.if_icmp .ne 9, 3) := by decide +kernel
theorem dX8_cut_28 : decode cX8_cut 28 = .ok (.lload_n 1, 1) := by decide +kernel
theorem dX8_cut_29 : decode cX8_cut 29 = .ok (.l2i, 1) := by decide +kernel
theorem dX8_cut_30 : decode cX8_cut 30 = .ok (.i2l, 1) := by decide +kernel
theorem dX8_cut_31 : decode cX8_cut 31 = .ok (.goto 4, 3) := by decide +kernel
theorem dX8_cut_34 : decode cX8_cut 34 = .ok (.lload_n 1, 1) := by decide +kernel
theorem dX8_cut_35 : decode cX8_cut 35 = .ok (.lreturn, 1) := by decide +kernel
theorem dX8_item_0 : decode cX8_item 0 = .ok (.aload_n 0, 1) := by decide +kernel
theorem dX8_item_1 : decode cX8_item 1 = .ok (.iconst 0, 1) := by decide +kernel
theorem dX8_item_2 : decode cX8_item 2 = .ok (.putfield 48, 3) := by decide +kernel
theorem dX8_item_5 : decode cX8_item 5 = .ok (.iload_n 1, 1) := by decide +kernel
theorem dX8_item_6 : decode cX8_item 6 = .ok (.iload_n 2, 1) := by decide +kernel
theorem dX8_item_7 : decode cX8_item 7 = .ok (.invokestatic 233, 3) := by decide +kernel
theorem dX8_item_10 : decode cX8_item 10 = .ok (.ifCond .ne 5, 3) := by decide +kernel
theorem dX8_item_13 : decode cX8_item 13 = .ok (.iconst (-1), 1) := by decide +kernel
theorem dX8_item_14 : decode cX8_item 14 = .ok (.ireturn, 1) := by decide +kernel
theorem dX8_item_15 : decode cX8_item 15 = .ok (.aload_n 0, 1) := by decide +kernel
theorem dX8_item_16 : decode cX8_item 16 = .ok (.iload_n 1, 1) := by decide +kernel
theorem dX8_item_17 : decode cX8_item 17 = .ok (.iload_n 2, 1) := by decide +kernel
theorem dX8_item_18 : decode cX8_item 18 = .ok (.iload_n 3, 1) := by decide +kernel
theorem dX8_item_19 : decode cX8_item 19 = .ok (.iconst 1, 1) := by decide +kernel
theorem dX8_item_20 : decode cX8_item 20 = .ok (.invokevirtual 236, 3) := by decide +kernel
theorem dX8_item_23 : decode cX8_item 23 = .ok (.istore 6, 2) := by decide +kernel
theorem dX8_item_25 : decode cX8_item 25 = .ok (.iload 6, 2) := by decide +kernel
theorem dX8_item_27 : decode cX8_item 27 = .ok (.ifCond .eq 6, 3) := by decide +kernel
theorem dX8_item_30 : decode cX8_item 30 = .ok (.iload 6, 2) := by decide +kernel
theorem dX8_item_32 : decode cX8_item 32 = .ok (.ireturn, 1) := by decide +kernel
theorem dX8_item_33 : decode cX8_item 33 = .ok (.aload_n 0, 1) := by decide +kernel
theorem dX8_item_34 : decode cX8_item 34 = .ok (.getfield 34, 3) := by decide +kernel
theorem dX8_item_37 : decode cX8_item 37 = .ok (.bipush 24, 2) := by decide +kernel
theorem dX8_item_39 : decode cX8_item 39 = .ok (.iload_n 1, 1) := by decide +kernel
theorem dX8_item_40 : decode cX8_item 40 = .ok (.imul, 1) := by decide +kernel
theorem dX8_item_41 : decode cX8_item 41 = .ok (.iload_n 3, 1) := by decide +kernel
theorem dX8_item_42 : decode cX8_item 42 = .ok (.iadd, 1) := by decide +kernel
theorem dX8_item_43 : decode cX8_item 43 = .ok (.iload_n 2, 1) := by decide +kernel
theorem dX8_item_44 : decode cX8_item 44 = .ok (.lload 4, 2) := by decide +kernel
theorem dX8_item_46 : decode cX8_item 46 = .ok (.invokestatic 240, 3) := by decide +kernel
theorem dX8_item_49 : decode cX8_item 49 = .ok (.lastore, 1) := by decide +kernel
theorem dX8_item_50 : decode cX8_item 50 = .ok (.iconst 1, 1) := by decide +kernel
theorem dX8_item_51 : decode cX8_item 51 = .ok (.ireturn, 1) := by decide +kernel
theorem dX8_copy_0 : decode cX8_copy 0 = .ok (.aload_n 0, 1) := by decide +kernel
theorem dX8_copy_1 : decode cX8_copy 1 = .ok (.iconst 0, 1) := by decide +kernel
theorem dX8_copy_2 : decode cX8_copy 2 = .ok (.putfield 48, 3) := by decide +kernel
theorem dX8_copy_5 : decode cX8_copy 5 = .ok (.iload_n 1, 1) := by decide +kernel
theorem dX8_copy_6 : decode cX8_copy 6 = .ok (.i2l, 1) := by decide +kernel
theorem dX8_copy_7 : decode cX8_copy 7 = .ok (.lconst 0, 1) := by decide +kernel
theorem dX8_copy_8 : decode cX8_copy 8 = .ok (.ldc2_w 95, 3) := by decide +kernel
theorem dX8_copy_11 : decode cX8_copy 11 = .ok (.invokestatic 51, 3) := by decide +kernel
theorem dX8_copy_14 : decode cX8_copy 14 = .ok (.ifCond .eq 15, 3) := by decide +kernel
theorem dX8_copy_17 : decode cX8_copy 17 = .ok (.iload_n 3, 1) := by decide +kernel
theorem dX8_copy_18 : decode cX8_copy 18 = .ok (.i2l, 1) := by decide +kernel
theorem dX8_copy_19 : decode cX8_copy 19 = .ok (.lconst 0, 1) := by decide +kernel
theorem dX8_copy_20 : decode cX8_copy 20 = .ok (.ldc2_w 95, 3) := by decide +kernel
theorem dX8_copy_23 : decode cX8_copy 23 = .ok (.invokestatic 51, 3) := by decide +kernel
theorem dX8_copy_26 : decode cX8_copy 26 = .ok (.ifCond .ne 5, 3) := by decide +kernel
theorem dX8_copy_29 : decode cX8_copy 29 = .ok (.iconst (-1), 1) := by decide +kernel
theorem dX8_copy_30 : decode cX8_copy 30 = .ok (.ireturn, 1) := by decide +kernel
theorem dX8_copy_31 : decode cX8_copy 31 = .ok (.aload_n 0, 1) := by decide +kernel
theorem dX8_copy_32 : decode cX8_copy 32 = .ok (.getfield 28, 3) := by decide +kernel
theorem dX8_copy_35 : decode cX8_copy 35 = .ok (.iload_n 1, 1) := by decide +kernel
theorem dX8_copy_36 : decode cX8_copy 36 = .ok (.iaload, 1) := by decide +kernel
theorem dX8_copy_37 : decode cX8_copy 37 = .ok (.ifCond .lt 12, 3) := by decide +kernel
theorem dX8_copy_40 : decode cX8_copy 40 = .ok (.aload_n 0, 1) := by decide +kernel
theorem dX8_copy_41 : decode cX8_copy 41 = .ok (.getfield 28, 3) := by decide +kernel
theorem dX8_copy_44 : decode cX8_copy 44 = .ok (.iload_n 3, 1) := by decide +kernel
theorem dX8_copy_45 : decode cX8_copy 45 = .ok (.iaload, 1) := by decide +kernel
theorem dX8_copy_46 : decode cX8_copy 46 = .ok (.ifCond .ge 6, 3) := by decide +kernel
theorem dX8_copy_49 : decode cX8_copy 49 = .ok (.bipush (-11), 2) := by decide +kernel
theorem dX8_copy_51 : decode cX8_copy 51 = .ok (.ireturn, 1) := by decide +kernel
theorem dX8_copy_52 : decode cX8_copy 52 = .ok (.aload_n 0, 1) := by decide +kernel
theorem dX8_copy_53 : decode cX8_copy 53 = .ok (.getfield 28, 3) := by decide +kernel
theorem dX8_copy_56 : decode cX8_copy 56 = .ok (.iload_n 1, 1) := by decide +kernel
theorem dX8_copy_57 : decode cX8_copy 57 = .ok (.iaload, 1) := by decide +kernel
theorem dX8_copy_58 : decode cX8_copy 58 = .ok (.aload_n 0, 1) := by decide +kernel
theorem dX8_copy_59 : decode cX8_copy 59 = .ok (.getfield 28, 3) := by decide +kernel
theorem dX8_copy_62 : decode cX8_copy 62 = .ok (.iload_n 3, 1) := by decide +kernel
theorem dX8_copy_63 : decode cX8_copy 63 = .ok (.iaload, 1) := by decide +kernel
theorem dX8_copy_64 : decode cX8_copy 64 = .ok (.if_icmp .eq 6, 3) := by decide +kernel
theorem dX8_copy_67 : decode cX8_copy 67 = .ok (.bipush (-12), 2) := by decide +kernel
theorem dX8_copy_69 : decode cX8_copy 69 = .ok (.ireturn, 1) := by decide +kernel
theorem dX8_copy_70 : decode cX8_copy 70 = .ok (.aload_n 0, 1) := by decide +kernel
theorem dX8_copy_71 : decode cX8_copy 71 = .ok (.iload_n 1, 1) := by decide +kernel
theorem dX8_copy_72 : decode cX8_copy 72 = .ok (.aload_n 0, 1) := by decide +kernel
theorem dX8_copy_73 : decode cX8_copy 73 = .ok (.getfield 28, 3) := by decide +kernel
theorem dX8_copy_76 : decode cX8_copy 76 = .ok (.iload_n 1, 1) := by decide +kernel
theorem dX8_copy_77 : decode cX8_copy 77 = .ok (.iaload, 1) := by decide +kernel
theorem dX8_copy_78 : decode cX8_copy 78 = .ok (.iload_n 2, 1) := by decide +kernel
theorem dX8_copy_79 : decode cX8_copy 79 = .ok (.iload 5, 2) := by decide +kernel
theorem dX8_copy_81 : decode cX8_copy 81 = .ok (.invokevirtual 236, 3) := by decide +kernel
theorem dX8_copy_84 : decode cX8_copy 84 = .ok (.ifCond .ne 21, 3) := by decide +kernel
theorem dX8_copy_87 : decode cX8_copy 87 = .ok (.aload_n 0, 1) := by decide +kernel
theorem dX8_copy_88 : decode cX8_copy 88 = .ok (.iload_n 3, 1) := by decide +kernel
theorem dX8_copy_89 : decode cX8_copy 89 = .ok (.aload_n 0, 1) := by decide +kernel
theorem dX8_copy_90 : decode cX8_copy 90 = .ok (.getfield 28, 3) := by decide +kernel
theorem dX8_copy_93 : decode cX8_copy 93 = .ok (.iload_n 3, 1) := by decide +kernel
theorem dX8_copy_94 : decode cX8_copy 94 = .ok (.iaload, 1) := by decide +kernel
theorem dX8_copy_95 : decode cX8_copy 95 = .ok (.iload 4, 2) := by decide +kernel
theorem dX8_copy_97 : decode cX8_copy 97 = .ok (.iload 5, 2) := by decide +kernel
theorem dX8_copy_99 : decode cX8_copy 99 = .ok (.invokevirtual 236, 3) := by decide +kernel
theorem dX8_copy_102 : decode cX8_copy 102 = .ok (.ifCond .eq 6, 3) := by decide +kernel
theorem dX8_copy_105 : decode cX8_copy 105 = .ok (.bipush (-13), 2) := by decide +kernel
theorem dX8_copy_107 : decode cX8_copy 107 = .ok (.ireturn, 1) := by decide +kernel
theorem dX8_copy_108 : decode cX8_copy 108 = .ok (.iconst 0, 1) := by decide +kernel
theorem dX8_copy_109 : decode cX8_copy 109 = .ok (.istore 6, 2) := by decide +kernel
theorem dX8_copy_111 : decode cX8_copy 111 = .ok (.iload 6, 2) := by decide +kernel
theorem dX8_copy_113 : decode cX8_copy 113 = .ok (.iload 5, 2) := by decide +kernel
theorem dX8_copy_115 : decode cX8_copy 115 = .ok (.if_icmp .ge 30, 3) := by decide +kernel
theorem dX8_copy_118 : decode cX8_copy 118 = .ok (.aload_n 0, 1) := by decide +kernel
theorem dX8_copy_119 : decode cX8_copy 119 = .ok (.getfield 45, 3) := by decide +kernel
theorem dX8_copy_122 : decode cX8_copy 122 = .ok (.iload 6, 2) := by decide +kernel
theorem dX8_copy_124 : decode cX8_copy 124 = .ok (.aload_n 0, 1) := by decide +kernel
theorem dX8_copy_125 : decode cX8_copy 125 = .ok (.getfield 34, 3) := by decide +kernel
theorem dX8_copy_128 : decode cX8_copy 128 = .ok (.bipush 24, 2) := by decide +kernel
theorem dX8_copy_130 : decode cX8_copy 130 = .ok (.iload_n 1, 1) := by decide +kernel
theorem dX8_copy_131 : decode cX8_copy 131 = .ok (.imul, 1) := by decide +kernel
theorem dX8_copy_132 : decode cX8_copy 132 = .ok (.iload_n 2, 1) := by decide +kernel
theorem dX8_copy_133 : decode cX8_copy 133 = .ok (.iadd, 1) := by decide +kernel
theorem dX8_copy_134 : decode cX8_copy 134 = .ok (.iload 6, 2) := by decide +kernel
theorem dX8_copy_136 : decode cX8_copy 136 = .ok (.iadd, 1) := by decide +kernel
theorem dX8_copy_137 : decode cX8_copy 137 = .ok (.laload, 1) := by decide +kernel
theorem dX8_copy_138 : decode cX8_copy 138 = .ok (.lastore, 1) := by decide +kernel
theorem dX8_copy_139 : decode cX8_copy 139 = .ok (.iinc 6 1, 3) := by decide +kernel
theorem dX8_copy_142 : decode cX8_copy 142 = .ok (.goto (-31), 3) := by decide +kernel
theorem dX8_copy_145 : decode cX8_copy 145 = .ok (.iconst 0, 1) := by decide +kernel
theorem dX8_copy_146 : decode cX8_copy 146 = .ok (.istore 6, 2) := by decide +kernel
theorem dX8_copy_148 : decode cX8_copy 148 = .ok (.iload 6, 2) := by decide +kernel
theorem dX8_copy_150 : decode cX8_copy 150 = .ok (.iload 5, 2) := by decide +kernel
theorem dX8_copy_152 : decode cX8_copy 152 = .ok (.if_icmp .ge 31, 3) := by decide +kernel
theorem dX8_copy_155 : decode cX8_copy 155 = .ok (.aload_n 0, 1) := by decide +kernel
theorem dX8_copy_156 : decode cX8_copy 156 = .ok (.getfield 34, 3) := by decide +kernel
theorem dX8_copy_159 : decode cX8_copy 159 = .ok (.bipush 24, 2) := by decide +kernel
theorem dX8_copy_161 : decode cX8_copy 161 = .ok (.iload_n 3, 1) := by decide +kernel
theorem dX8_copy_162 : decode cX8_copy 162 = .ok (.imul, 1) := by decide +kernel
theorem dX8_copy_163 : decode cX8_copy 163 = .ok (.iload 4, 2) := by decide +kernel
theorem dX8_copy_165 : decode cX8_copy 165 = .ok (.iadd, 1) := by decide +kernel
theorem dX8_copy_166 : decode cX8_copy 166 = .ok (.iload 6, 2) := by decide +kernel
theorem dX8_copy_168 : decode cX8_copy 168 = .ok (.iadd, 1) := by decide +kernel
theorem dX8_copy_169 : decode cX8_copy 169 = .ok (.aload_n 0, 1) := by decide +kernel
theorem dX8_copy_170 : decode cX8_copy 170 = .ok (.getfield 45, 3) := by decide +kernel
theorem dX8_copy_173 : decode cX8_copy 173 = .ok (.iload 6, 2) := by decide +kernel
theorem dX8_copy_175 : decode cX8_copy 175 = .ok (.laload, 1) := by decide +kernel
theorem dX8_copy_176 : decode cX8_copy 176 = .ok (.lastore, 1) := by decide +kernel
theorem dX8_copy_177 : decode cX8_copy 177 = .ok (.iinc 6 1, 3) := by decide +kernel
theorem dX8_copy_180 : decode cX8_copy 180 = .ok (.goto (-32), 3) := by decide +kernel
theorem dX8_copy_183 : decode cX8_copy 183 = .ok (.iload 5, 2) := by decide +kernel
theorem dX8_copy_185 : decode cX8_copy 185 = .ok (.ireturn, 1) := by decide +kernel
theorem dJ6_bitCount_0f7a4_0 : decode cJ6_bitCount_0f7a4 0 = .ok (.iload_n 0, 1) := by decide +kernel
theorem dJ6_bitCount_0f7a4_1 : decode cJ6_bitCount_0f7a4 1 = .ok (.iload_n 0, 1) := by decide +kernel
theorem dJ6_bitCount_0f7a4_2 : decode cJ6_bitCount_0f7a4 2 = .ok (.iconst 1, 1) := by decide +kernel
theorem dJ6_bitCount_0f7a4_3 : decode cJ6_bitCount_0f7a4 3 = .ok (.iushr, 1) := by decide +kernel
theorem dJ6_bitCount_0f7a4_4 : decode cJ6_bitCount_0f7a4 4 = .ok (.ldc_w 265, 3) := by decide +kernel
theorem dJ6_bitCount_0f7a4_7 : decode cJ6_bitCount_0f7a4 7 = .ok (.iand, 1) := by decide +kernel
theorem dJ6_bitCount_0f7a4_8 : decode cJ6_bitCount_0f7a4 8 = .ok (.isub, 1) := by decide +kernel
theorem dJ6_bitCount_0f7a4_9 : decode cJ6_bitCount_0f7a4 9 = .ok (.istore_n 0, 1) := by decide +kernel
theorem dJ6_bitCount_0f7a4_10 : decode cJ6_bitCount_0f7a4 10 = .ok (.iload_n 0, 1) := by decide +kernel
theorem dJ6_bitCount_0f7a4_11 : decode cJ6_bitCount_0f7a4 11 = .ok (.ldc_w 266, 3) := by decide +kernel
theorem dJ6_bitCount_0f7a4_14 : decode cJ6_bitCount_0f7a4 14 = .ok (.iand, 1) := by decide +kernel
theorem dJ6_bitCount_0f7a4_15 : decode cJ6_bitCount_0f7a4 15 = .ok (.iload_n 0, 1) := by decide +kernel
