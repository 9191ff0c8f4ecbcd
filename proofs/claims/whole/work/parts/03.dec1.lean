theorem dX3_put_70 : decode cX3_put 70 = .ok (.aload_n 0, 1) := by decide +kernel
theorem dX3_put_71 : decode cX3_put 71 = .ok (.getfield 22, 3) := by decide +kernel
theorem dX3_put_74 : decode cX3_put 74 = .ok (.iload_n 1, 1) := by decide +kernel
theorem dX3_put_75 : decode cX3_put 75 = .ok (.lload_n 2, 1) := by decide +kernel
theorem dX3_put_76 : decode cX3_put 76 = .ok (.lastore, 1) := by decide +kernel
theorem dX3_put_77 : decode cX3_put 77 = .ok (.return_, 1) := by decide +kernel
theorem dX4_init_0 : decode cX4_init 0 = .ok (.aload_n 0, 1) := by decide +kernel
theorem dX4_init_1 : decode cX4_init 1 = .ok (.invokespecial 1, 3) := by decide +kernel
theorem dX4_init_4 : decode cX4_init 4 = .ok (.aload_n 0, 1) := by decide +kernel
theorem dX4_init_5 : decode cX4_init 5 = .ok (.new 7, 3) := by decide +kernel
theorem dX4_init_8 : decode cX4_init 8 = .ok (.dup, 1) := by decide +kernel
theorem dX4_init_9 : decode cX4_init 9 = .ok (.invokespecial 9, 3) := by decide +kernel
theorem dX4_init_12 : decode cX4_init 12 = .ok (.putfield 10, 3) := by decide +kernel
theorem dX4_init_15 : decode cX4_init 15 = .ok (.aload_n 0, 1) := by decide +kernel
theorem dX4_init_16 : decode cX4_init 16 = .ok (.new 16, 3) := by decide +kernel
theorem dX4_init_19 : decode cX4_init 19 = .ok (.dup, 1) := by decide +kernel
theorem dX4_init_20 : decode cX4_init 20 = .ok (.invokespecial 18, 3) := by decide +kernel
theorem dX4_init_23 : decode cX4_init 23 = .ok (.putfield 19, 3) := by decide +kernel
theorem dX4_init_26 : decode cX4_init 26 = .ok (.aload_n 0, 1) := by decide +kernel
theorem dX4_init_27 : decode cX4_init 27 = .ok (.new 23, 3) := by decide +kernel
theorem dX4_init_30 : decode cX4_init 30 = .ok (.dup, 1) := by decide +kernel
theorem dX4_init_31 : decode cX4_init 31 = .ok (.invokespecial 25, 3) := by decide +kernel
theorem dX4_init_34 : decode cX4_init 34 = .ok (.putfield 26, 3) := by decide +kernel
theorem dX4_init_37 : decode cX4_init 37 = .ok (.return_, 1) := by decide +kernel
theorem dX4_become_0 : decode cX4_become 0 = .ok (.aload_n 0, 1) := by decide +kernel
theorem dX4_become_1 : decode cX4_become 1 = .ok (.getfield 10, 3) := by decide +kernel
theorem dX4_become_4 : decode cX4_become 4 = .ok (.aload_n 1, 1) := by decide +kernel
theorem dX4_become_5 : decode cX4_become 5 = .ok (.getfield 10, 3) := by decide +kernel
theorem dX4_become_8 : decode cX4_become 8 = .ok (.invokevirtual 30, 3) := by decide +kernel
theorem dX4_become_11 : decode cX4_become 11 = .ok (.aload_n 0, 1) := by decide +kernel
theorem dX4_become_12 : decode cX4_become 12 = .ok (.getfield 19, 3) := by decide +kernel
theorem dX4_become_15 : decode cX4_become 15 = .ok (.aload_n 1, 1) := by decide +kernel
theorem dX4_become_16 : decode cX4_become 16 = .ok (.getfield 19, 3) := by decide +kernel
theorem dX4_become_19 : decode cX4_become 19 = .ok (.invokevirtual 34, 3) := by decide +kernel
theorem dX4_become_22 : decode cX4_become 22 = .ok (.aload_n 0, 1) := by decide +kernel
theorem dX4_become_23 : decode cX4_become 23 = .ok (.getfield 26, 3) := by decide +kernel
theorem dX4_become_26 : decode cX4_become 26 = .ok (.aload_n 1, 1) := by decide +kernel
theorem dX4_become_27 : decode cX4_become 27 = .ok (.getfield 26, 3) := by decide +kernel
theorem dX4_become_30 : decode cX4_become 30 = .ok (.invokevirtual 37, 3) := by decide +kernel
theorem dX4_become_33 : decode cX4_become 33 = .ok (.return_, 1) := by decide +kernel
theorem dX5_init_0 : decode cX5_init 0 = .ok (.aload_n 0, 1) := by decide +kernel
theorem dX5_init_1 : decode cX5_init 1 = .ok (.invokespecial 3, 3) := by decide +kernel
theorem dX5_init_4 : decode cX5_init 4 = .ok (.aload_n 0, 1) := by decide +kernel
theorem dX5_init_5 : decode cX5_init 5 = .ok (.iconst 0, 1) := by decide +kernel
theorem dX5_init_6 : decode cX5_init 6 = .ok (.putfield 9, 3) := by decide +kernel
theorem dX5_init_9 : decode cX5_init 9 = .ok (.aload_n 0, 1) := by decide +kernel
theorem dX5_init_10 : decode cX5_init 10 = .ok (.new 15, 3) := by decide +kernel
theorem dX5_init_13 : decode cX5_init 13 = .ok (.dup, 1) := by decide +kernel
theorem dX5_init_14 : decode cX5_init 14 = .ok (.invokespecial 17, 3) := by decide +kernel
theorem dX5_init_17 : decode cX5_init 17 = .ok (.putfield 18, 3) := by decide +kernel
theorem dX5_init_20 : decode cX5_init 20 = .ok (.aload_n 0, 1) := by decide +kernel
theorem dX5_init_21 : decode cX5_init 21 = .ok (.bipush 9, 2) := by decide +kernel
theorem dX5_init_23 : decode cX5_init 23 = .ok (.newarray .int, 2) := by decide +kernel
theorem dX5_init_25 : decode cX5_init 25 = .ok (.putfield 22, 3) := by decide +kernel
theorem dX5_init_28 : decode cX5_init 28 = .ok (.aload_n 0, 1) := by decide +kernel
theorem dX5_init_29 : decode cX5_init 29 = .ok (.bipush 9, 2) := by decide +kernel
theorem dX5_init_31 : decode cX5_init 31 = .ok (.newarray .int, 2) := by decide +kernel
theorem dX5_init_33 : decode cX5_init 33 = .ok (.putfield 26, 3) := by decide +kernel
theorem dX5_init_36 : decode cX5_init 36 = .ok (.aload_n 0, 1) := by decide +kernel
theorem dX5_init_37 : decode cX5_init 37 = .ok (.bipush 9, 2) := by decide +kernel
theorem dX5_init_39 : decode cX5_init 39 = .ok (.newarray .int, 2) := by decide +kernel
theorem dX5_init_41 : decode cX5_init 41 = .ok (.putfield 29, 3) := by decide +kernel
theorem dX5_init_44 : decode cX5_init 44 = .ok (.aload_n 0, 1) := by decide +kernel
theorem dX5_init_45 : decode cX5_init 45 = .ok (.bipush 9, 2) := by decide +kernel
theorem dX5_init_47 : decode cX5_init 47 = .ok (.newarray .int, 2) := by decide +kernel
theorem dX5_init_49 : decode cX5_init 49 = .ok (.putfield 32, 3) := by decide +kernel
theorem dX5_init_52 : decode cX5_init 52 = .ok (.aload_n 0, 1) := by decide +kernel
theorem dX5_init_53 : decode cX5_init 53 = .ok (.sipush 160, 3) := by decide +kernel
theorem dX5_init_56 : decode cX5_init 56 = .ok (.newarray .char, 2) := by decide +kernel
theorem dX5_init_58 : decode cX5_init 58 = .ok (.putfield 35, 3) := by decide +kernel
theorem dX5_init_61 : decode cX5_init 61 = .ok (.aload_n 0, 1) := by decide +kernel
theorem dX5_init_62 : decode cX5_init 62 = .ok (.iconst 0, 1) := by decide +kernel
theorem dX5_init_63 : decode cX5_init 63 = .ok (.putfield 39, 3) := by decide +kernel
theorem dX5_init_66 : decode cX5_init 66 = .ok (.aload_n 0, 1) := by decide +kernel
theorem dX5_init_67 : decode cX5_init 67 = .ok (.iconst (-1), 1) := by decide +kernel
theorem dX5_init_68 : decode cX5_init 68 = .ok (.putfield 42, 3) := by decide +kernel
theorem dX5_init_71 : decode cX5_init 71 = .ok (.return_, 1) := by decide +kernel
theorem dX5_append_0 : decode cX5_append 0 = .ok (.aload_n 0, 1) := by decide +kernel
theorem dX5_append_1 : decode cX5_append 1 = .ok (.getfield 35, 3) := by decide +kernel
theorem dX5_append_4 : decode cX5_append 4 = .ok (.aload_n 0, 1) := by decide +kernel
theorem dX5_append_5 : decode cX5_append 5 = .ok (.getfield 9, 3) := by decide +kernel
theorem dX5_append_8 : decode cX5_append 8 = .ok (.iload_n 1, 1) := by decide +kernel
theorem dX5_append_9 : decode cX5_append 9 = .ok (.i2c, 1) := by decide +kernel
theorem dX5_append_10 : decode cX5_append 10 = .ok (.castore, 1) := by decide +kernel
theorem dX5_append_11 : decode cX5_append 11 = .ok (.aload_n 0, 1) := by decide +kernel
theorem dX5_append_12 : decode cX5_append 12 = .ok (.dup, 1) := by decide +kernel
theorem dX5_append_13 : decode cX5_append 13 = .ok (.getfield 9, 3) := by decide +kernel
theorem dX5_append_16 : decode cX5_append 16 = .ok (.iconst 1, 1) := by decide +kernel
theorem dX5_append_17 : decode cX5_append 17 = .ok (.iadd, 1) := by decide +kernel
theorem dX5_append_18 : decode cX5_append 18 = .ok (.putfield 9, 3) := by decide +kernel
theorem dX5_append_21 : decode cX5_append 21 = .ok (.aload_n 0, 1) := by decide +kernel
theorem dX5_append_22 : decode cX5_append 22 = .ok (.getfield 9, 3) := by decide +kernel
theorem dX5_append_25 : decode cX5_append 25 = .ok (.ireturn, 1) := by decide +kernel
theorem dX5_readLaw_0 : decode cX5_readLaw 0 = .ok (.aload_n 0, 1) := by decide +kernel
theorem dX5_readLaw_1 : decode cX5_readLaw 1 = .ok (.invokevirtual 45, 3) := by decide +kernel
theorem dX5_readLaw_4 : decode cX5_readLaw 4 = .ok (.aload_n 0, 1) := by decide +kernel
theorem dX5_readLaw_5 : decode cX5_readLaw 5 = .ok (.getfield 18, 3) := by decide +kernel
theorem dX5_readLaw_8 : decode cX5_readLaw 8 = .ok (.iconst 0, 1) := by decide +kernel
theorem dX5_readLaw_9 : decode cX5_readLaw 9 = .ok (.putfield 48, 3) := by decide +kernel
theorem dX5_readLaw_12 : decode cX5_readLaw 12 = .ok (.iconst 0, 1) := by decide +kernel
theorem dX5_readLaw_13 : decode cX5_readLaw 13 = .ok (.istore_n 1, 1) := by decide +kernel
theorem dX5_readLaw_14 : decode cX5_readLaw 14 = .ok (.iload_n 1, 1) := by decide +kernel
theorem dX5_readLaw_15 : decode cX5_readLaw 15 = .ok (.bipush 8, 2) := by decide +kernel
theorem dX5_readLaw_17 : decode cX5_readLaw 17 = .ok (.if_icmp .ge 50, 3) := by decide +kernel
theorem dX5_readLaw_20 : decode cX5_readLaw 20 = .ok (.aload_n 0, 1) := by decide +kernel
theorem dX5_readLaw_21 : decode cX5_readLaw 21 = .ok (.getfield 42, 3) := by decide +kernel
theorem dX5_readLaw_24 : decode cX5_readLaw 24 = .ok (.ifCond .ge 43, 3) := by decide +kernel
theorem dX5_readLaw_27 : decode cX5_readLaw 27 = .ok (.aload_n 0, 1) := by decide +kernel
theorem dX5_readLaw_28 : decode cX5_readLaw 28 = .ok (.invokevirtual 49, 3) := by decide +kernel
theorem dX5_readLaw_31 : decode cX5_readLaw 31 = .ok (.ifCond .ne 36, 3) := by decide +kernel
theorem dX5_readLaw_34 : decode cX5_readLaw 34 = .ok (.aload_n 0, 1) := by decide +kernel
theorem dX5_readLaw_35 : decode cX5_readLaw 35 = .ok (.invokevirtual 53, 3) := by decide +kernel
theorem dX5_readLaw_38 : decode cX5_readLaw 38 = .ok (.aload_n 0, 1) := by decide +kernel
theorem dX5_readLaw_39 : decode cX5_readLaw 39 = .ok (.invokevirtual 49, 3) := by decide +kernel
theorem dX5_readLaw_42 : decode cX5_readLaw 42 = .ok (.ifCond .ne 19, 3) := by decide +kernel
theorem dX5_readLaw_45 : decode cX5_readLaw 45 = .ok (.iload_n 1, 1) := by decide +kernel
theorem dX5_readLaw_46 : decode cX5_readLaw 46 = .ok (.bipush 7, 2) := by decide +kernel
theorem dX5_readLaw_48 : decode cX5_readLaw 48 = .ok (.if_icmp .ge 13, 3) := by decide +kernel
theorem dX5_readLaw_51 : decode cX5_readLaw 51 = .ok (.aload_n 0, 1) := by decide +kernel
theorem dX5_readLaw_52 : decode cX5_readLaw 52 = .ok (.bipush 59, 2) := by decide +kernel
theorem dX5_readLaw_54 : decode cX5_readLaw 54 = .ok (.invokevirtual 56, 3) := by decide +kernel
theorem dX5_readLaw_57 : decode cX5_readLaw 57 = .ok (.aload_n 0, 1) := by decide +kernel
theorem dX5_readLaw_58 : decode cX5_readLaw 58 = .ok (.invokevirtual 60, 3) := by decide +kernel
theorem dX5_readLaw_61 : decode cX5_readLaw 61 = .ok (.iinc 1 1, 3) := by decide +kernel
theorem dX5_readLaw_64 : decode cX5_readLaw 64 = .ok (.goto (-50), 3) := by decide +kernel
theorem dX5_readLaw_67 : decode cX5_readLaw 67 = .ok (.aload_n 0, 1) := by decide +kernel
theorem dX5_readLaw_68 : decode cX5_readLaw 68 = .ok (.aload_n 0, 1) := by decide +kernel
theorem dX5_readLaw_69 : decode cX5_readLaw 69 = .ok (.getfield 18, 3) := by decide +kernel
theorem dX5_readLaw_72 : decode cX5_readLaw 72 = .ok (.getfield 48, 3) := by decide +kernel
theorem dX5_readLaw_75 : decode cX5_readLaw 75 = .ok (.invokevirtual 63, 3) := by decide +kernel
theorem dX5_readLaw_78 : decode cX5_readLaw 78 = .ok (.ireturn, 1) := by decide +kernel
theorem dX5_readRule_0 : decode cX5_readRule 0 = .ok (.aload_n 0, 1) := by decide +kernel
theorem dX5_readRule_1 : decode cX5_readRule 1 = .ok (.ldc 67, 2) := by decide +kernel
theorem dX5_readRule_3 : decode cX5_readRule 3 = .ok (.invokevirtual 69, 3) := by decide +kernel
theorem dX5_readRule_6 : decode cX5_readRule 6 = .ok (.istore_n 1, 1) := by decide +kernel
theorem dX5_readRule_7 : decode cX5_readRule 7 = .ok (.aload_n 0, 1) := by decide +kernel
theorem dX5_readRule_8 : decode cX5_readRule 8 = .ok (.ldc 73, 2) := by decide +kernel
theorem dX5_readRule_10 : decode cX5_readRule 10 = .ok (.invokevirtual 69, 3) := by decide +kernel
theorem dX5_readRule_13 : decode cX5_readRule 13 = .ok (.istore_n 2, 1) := by decide +kernel
theorem dX5_readRule_14 : decode cX5_readRule 14 = .ok (.aload_n 0, 1) := by decide +kernel
theorem dX5_readRule_15 : decode cX5_readRule 15 = .ok (.ldc 75, 2) := by decide +kernel
theorem dX5_readRule_17 : decode cX5_readRule 17 = .ok (.invokevirtual 69, 3) := by decide +kernel
theorem dX5_readRule_20 : decode cX5_readRule 20 = .ok (.istore_n 3, 1) := by decide +kernel
theorem dX5_readRule_21 : decode cX5_readRule 21 = .ok (.aload_n 0, 1) := by decide +kernel
theorem dX5_readRule_22 : decode cX5_readRule 22 = .ok (.ldc 77, 2) := by decide +kernel
theorem dX5_readRule_24 : decode cX5_readRule 24 = .ok (.invokevirtual 69, 3) := by decide +kernel
theorem dX5_readRule_27 : decode cX5_readRule 27 = .ok (.istore 4, 2) := by decide +kernel
theorem dX5_readRule_29 : decode cX5_readRule 29 = .ok (.aload_n 0, 1) := by decide +kernel
theorem dX5_readRule_30 : decode cX5_readRule 30 = .ok (.getfield 42, 3) := by decide +kernel
theorem dX5_readRule_33 : decode cX5_readRule 33 = .ok (.ifCond .ge 16, 3) := by decide +kernel
theorem dX5_readRule_36 : decode cX5_readRule 36 = .ok (.aload_n 0, 1) := by decide +kernel
theorem dX5_readRule_37 : decode cX5_readRule 37 = .ok (.getfield 18, 3) := by decide +kernel
theorem dX5_readRule_40 : decode cX5_readRule 40 = .ok (.iload_n 1, 1) := by decide +kernel
theorem dX5_readRule_41 : decode cX5_readRule 41 = .ok (.iload_n 2, 1) := by decide +kernel
theorem dX5_readRule_42 : decode cX5_readRule 42 = .ok (.iload_n 3, 1) := by decide +kernel
theorem dX5_readRule_43 : decode cX5_readRule 43 = .ok (.iload 4, 2) := by decide +kernel
theorem dX5_readRule_45 : decode cX5_readRule 45 = .ok (.invokevirtual 79, 3) := by decide +kernel
theorem dX5_readRule_48 : decode cX5_readRule 48 = .ok (.pop, 1) := by decide +kernel
theorem dX5_readRule_49 : decode cX5_readRule 49 = .ok (.return_, 1) := by decide +kernel
theorem dX5_readRocks_0 : decode cX5_readRocks 0 = .ok (.aload_n 0, 1) := by decide +kernel
theorem dX5_readRocks_1 : decode cX5_readRocks 1 = .ok (.invokevirtual 45, 3) := by decide +kernel
theorem dX5_readRocks_4 : decode cX5_readRocks 4 = .ok (.aload_n 0, 1) := by decide +kernel
theorem dX5_readRocks_5 : decode cX5_readRocks 5 = .ok (.invokevirtual 60, 3) := by decide +kernel
theorem dX5_readRocks_8 : decode cX5_readRocks 8 = .ok (.iconst 0, 1) := by decide +kernel
theorem dX5_readRocks_9 : decode cX5_readRocks 9 = .ok (.istore_n 1, 1) := by decide +kernel
theorem dX5_readRocks_10 : decode cX5_readRocks 10 = .ok (.iconst 0, 1) := by decide +kernel
theorem dX5_readRocks_11 : decode cX5_readRocks 11 = .ok (.istore_n 2, 1) := by decide +kernel
theorem dX5_readRocks_12 : decode cX5_readRocks 12 = .ok (.iload_n 2, 1) := by decide +kernel
theorem dX5_readRocks_13 : decode cX5_readRocks 13 = .ok (.bipush 9, 2) := by decide +kernel
theorem dX5_readRocks_15 : decode cX5_readRocks 15 = .ok (.if_icmp .ge 54, 3) := by decide +kernel
theorem dX5_readRocks_18 : decode cX5_readRocks 18 = .ok (.aload_n 0, 1) := by decide +kernel
theorem dX5_readRocks_19 : decode cX5_readRocks 19 = .ok (.getfield 42, 3) := by decide +kernel
theorem dX5_readRocks_22 : decode cX5_readRocks 22 = .ok (.ifCond .ge 47, 3) := by decide +kernel
theorem dX5_readRocks_25 : decode cX5_readRocks 25 = .ok (.aload_n 0, 1) := by decide +kernel
theorem dX5_readRocks_26 : decode cX5_readRocks 26 = .ok (.invokevirtual 49, 3) := by decide +kernel
theorem dX5_readRocks_29 : decode cX5_readRocks 29 = .ok (.ifCond .ne 40, 3) := by decide +kernel
theorem dX5_readRocks_32 : decode cX5_readRocks 32 = .ok (.aload_n 0, 1) := by decide +kernel
theorem dX5_readRocks_33 : decode cX5_readRocks 33 = .ok (.iload_n 2, 1) := by decide +kernel
theorem dX5_readRocks_34 : decode cX5_readRocks 34 = .ok (.invokevirtual 83, 3) := by decide +kernel
theorem dX5_readRocks_37 : decode cX5_readRocks 37 = .ok (.iinc 1 1, 3) := by decide +kernel
theorem dX5_readRocks_40 : decode cX5_readRocks 40 = .ok (.aload_n 0, 1) := by decide +kernel
theorem dX5_readRocks_41 : decode cX5_readRocks 41 = .ok (.invokevirtual 49, 3) := by decide +kernel
theorem dX5_readRocks_44 : decode cX5_readRocks 44 = .ok (.ifCond .ne 19, 3) := by decide +kernel
theorem dX5_readRocks_47 : decode cX5_readRocks 47 = .ok (.iload_n 2, 1) := by decide +kernel
theorem dX5_readRocks_48 : decode cX5_readRocks 48 = .ok (.bipush 8, 2) := by decide +kernel
theorem dX5_readRocks_50 : decode cX5_readRocks 50 = .ok (.if_icmp .ge 13, 3) := by decide +kernel
theorem dX5_readRocks_53 : decode cX5_readRocks 53 = .ok (.aload_n 0, 1) := by decide +kernel
theorem dX5_readRocks_54 : decode cX5_readRocks 54 = .ok (.bipush 44, 2) := by decide +kernel
theorem dX5_readRocks_56 : decode cX5_readRocks 56 = .ok (.invokevirtual 56, 3) := by decide +kernel
theorem dX5_readRocks_59 : decode cX5_readRocks 59 = .ok (.aload_n 0, 1) := by decide +kernel
theorem dX5_readRocks_60 : decode cX5_readRocks 60 = .ok (.invokevirtual 60, 3) := by decide +kernel
theorem dX5_readRocks_63 : decode cX5_readRocks 63 = .ok (.iinc 2 1, 3) := by decide +kernel
theorem dX5_readRocks_66 : decode cX5_readRocks 66 = .ok (.goto (-54), 3) := by decide +kernel
theorem dX5_readRocks_69 : decode cX5_readRocks 69 = .ok (.aload_n 0, 1) := by decide +kernel
theorem dX5_readRocks_70 : decode cX5_readRocks 70 = .ok (.iload_n 1, 1) := by decide +kernel
theorem dX5_readRocks_71 : decode cX5_readRocks 71 = .ok (.invokevirtual 63, 3) := by decide +kernel
theorem dX5_readRocks_74 : decode cX5_readRocks 74 = .ok (.ireturn, 1) := by decide +kernel
theorem dX5_readRock_0 : decode cX5_readRock 0 = .ok (.aload_n 0, 1) := by decide +kernel
theorem dX5_readRock_1 : decode cX5_readRock 1 = .ok (.getfield 22, 3) := by decide +kernel
theorem dX5_readRock_4 : decode cX5_readRock 4 = .ok (.iload_n 1, 1) := by decide +kernel
theorem dX5_readRock_5 : decode cX5_readRock 5 = .ok (.aload_n 0, 1) := by decide +kernel
theorem dX5_readRock_6 : decode cX5_readRock 6 = .ok (.ldc 87, 2) := by decide +kernel
theorem dX5_readRock_8 : decode cX5_readRock 8 = .ok (.invokevirtual 69, 3) := by decide +kernel
theorem dX5_readRock_11 : decode cX5_readRock 11 = .ok (.iastore, 1) := by decide +kernel
theorem dX5_readRock_12 : decode cX5_readRock 12 = .ok (.aload_n 0, 1) := by decide +kernel
theorem dX5_readRock_13 : decode cX5_readRock 13 = .ok (.getfield 26, 3) := by decide +kernel
theorem dX5_readRock_16 : decode cX5_readRock 16 = .ok (.iload_n 1, 1) := by decide +kernel
theorem dX5_readRock_17 : decode cX5_readRock 17 = .ok (.aload_n 0, 1) := by decide +kernel
theorem dX5_readRock_18 : decode cX5_readRock 18 = .ok (.ldc 89, 2) := by decide +kernel
theorem dX5_readRock_20 : decode cX5_readRock 20 = .ok (.invokevirtual 69, 3) := by decide +kernel
theorem dX5_readRock_23 : decode cX5_readRock 23 = .ok (.iastore, 1) := by decide +kernel
theorem dX5_readRock_24 : decode cX5_readRock 24 = .ok (.aload_n 0, 1) := by decide +kernel
theorem dX5_readRock_25 : decode cX5_readRock 25 = .ok (.getfield 29, 3) := by decide +kernel
theorem dX5_readRock_28 : decode cX5_readRock 28 = .ok (.iload_n 1, 1) := by decide +kernel
theorem dX5_readRock_29 : decode cX5_readRock 29 = .ok (.iconst 0, 1) := by decide +kernel
theorem dX5_readRock_30 : decode cX5_readRock 30 = .ok (.iastore, 1) := by decide +kernel
theorem dX5_readRock_31 : decode cX5_readRock 31 = .ok (.aload_n 0, 1) := by decide +kernel
theorem dX5_readRock_32 : decode cX5_readRock 32 = .ok (.getfield 32, 3) := by decide +kernel
theorem dX5_readRock_35 : decode cX5_readRock 35 = .ok (.iload_n 1, 1) := by decide +kernel
theorem dX5_readRock_36 : decode cX5_readRock 36 = .ok (.iconst 0, 1) := by decide +kernel
theorem dX5_readRock_37 : decode cX5_readRock 37 = .ok (.iastore, 1) := by decide +kernel
theorem dX5_readRock_38 : decode cX5_readRock 38 = .ok (.aload_n 0, 1) := by decide +kernel
theorem dX5_readRock_39 : decode cX5_readRock 39 = .ok (.getfield 42, 3) := by decide +kernel
theorem dX5_readRock_42 : decode cX5_readRock 42 = .ok (.ifCond .ge 48, 3) := by decide +kernel
theorem dX5_readRock_45 : decode cX5_readRock 45 = .ok (.aload_n 0, 1) := by decide +kernel
theorem dX5_readRock_46 : decode cX5_readRock 46 = .ok (.bipush 100, 2) := by decide +kernel
theorem dX5_readRock_48 : decode cX5_readRock 48 = .ok (.invokevirtual 91, 3) := by decide +kernel
theorem dX5_readRock_51 : decode cX5_readRock 51 = .ok (.ifCond .eq 39, 3) := by decide +kernel
theorem dX5_readRock_54 : decode cX5_readRock 54 = .ok (.aload_n 0, 1) := by decide +kernel
theorem dX5_readRock_55 : decode cX5_readRock 55 = .ok (.bipush 100, 2) := by decide +kernel
theorem dX5_readRock_57 : decode cX5_readRock 57 = .ok (.invokevirtual 56, 3) := by decide +kernel
theorem dX5_readRock_60 : decode cX5_readRock 60 = .ok (.aload_n 0, 1) := by decide +kernel
theorem dX5_readRock_61 : decode cX5_readRock 61 = .ok (.getfield 29, 3) := by decide +kernel
theorem dX5_readRock_64 : decode cX5_readRock 64 = .ok (.iload_n 1, 1) := by decide +kernel
theorem dX5_readRock_65 : decode cX5_readRock 65 = .ok (.aload_n 0, 1) := by decide +kernel
theorem dX5_readRock_66 : decode cX5_readRock 66 = .ok (.bipush 99, 2) := by decide +kernel
theorem dX5_readRock_68 : decode cX5_readRock 68 = .ok (.invokevirtual 95, 3) := by decide +kernel
theorem dX5_readRock_71 : decode cX5_readRock 71 = .ok (.iastore, 1) := by decide +kernel
theorem dX5_readRock_72 : decode cX5_readRock 72 = .ok (.aload_n 0, 1) := by decide +kernel
theorem dX5_readRock_73 : decode cX5_readRock 73 = .ok (.bipush 45, 2) := by decide +kernel
theorem dX5_readRock_75 : decode cX5_readRock 75 = .ok (.invokevirtual 56, 3) := by decide +kernel
theorem dX5_readRock_78 : decode cX5_readRock 78 = .ok (.aload_n 0, 1) := by decide +kernel
theorem dX5_readRock_79 : decode cX5_readRock 79 = .ok (.getfield 32, 3) := by decide +kernel
theorem dX5_readRock_82 : decode cX5_readRock 82 = .ok (.iload_n 1, 1) := by decide +kernel
theorem dX5_readRock_83 : decode cX5_readRock 83 = .ok (.aload_n 0, 1) := by decide +kernel
theorem dX5_readRock_84 : decode cX5_readRock 84 = .ok (.bipush 100, 2) := by decide +kernel
theorem dX5_readRock_86 : decode cX5_readRock 86 = .ok (.invokevirtual 95, 3) := by decide +kernel
theorem dX5_readRock_89 : decode cX5_readRock 89 = .ok (.iastore, 1) := by decide +kernel
theorem dX5_readRock_90 : decode cX5_readRock 90 = .ok (.return_, 1) := by decide +kernel
theorem dX5_begin_0 : decode cX5_begin 0 = .ok (.aload_n 0, 1) := by decide +kernel
theorem dX5_begin_1 : decode cX5_begin 1 = .ok (.iconst 0, 1) := by decide +kernel
theorem dX5_begin_2 : decode cX5_begin 2 = .ok (.putfield 39, 3) := by decide +kernel
theorem dX5_begin_5 : decode cX5_begin 5 = .ok (.aload_n 0, 1) := by decide +kernel
theorem dX5_begin_6 : decode cX5_begin 6 = .ok (.iconst (-1), 1) := by decide +kernel
theorem dX5_begin_7 : decode cX5_begin 7 = .ok (.putfield 42, 3) := by decide +kernel
theorem dX5_begin_10 : decode cX5_begin 10 = .ok (.return_, 1) := by decide +kernel
theorem dX5_answer_0 : decode cX5_answer 0 = .ok (.aload_n 0, 1) := by decide +kernel
theorem dX5_answer_1 : decode cX5_answer 1 = .ok (.invokevirtual 49, 3) := by decide +kernel
theorem dX5_answer_4 : decode cX5_answer 4 = .ok (.ifCond .ne 11, 3) := by decide +kernel
theorem dX5_answer_7 : decode cX5_answer 7 = .ok (.aload_n 0, 1) := by decide +kernel
theorem dX5_answer_8 : decode cX5_answer 8 = .ok (.aload_n 0, 1) := by decide +kernel
theorem dX5_answer_9 : decode cX5_answer 9 = .ok (.getfield 39, 3) := by decide +kernel
theorem dX5_answer_12 : decode cX5_answer 12 = .ok (.invokevirtual 98, 3) := by decide +kernel
theorem dX5_answer_15 : decode cX5_answer 15 = .ok (.aload_n 0, 1) := by decide +kernel
theorem dX5_answer_16 : decode cX5_answer 16 = .ok (.getfield 42, 3) := by decide +kernel
theorem dX5_answer_19 : decode cX5_answer 19 = .ok (.ifCond .ge 7, 3) := by decide +kernel
theorem dX5_answer_22 : decode cX5_answer 22 = .ok (.iload_n 1, 1) := by decide +kernel
theorem dX5_answer_23 : decode cX5_answer 23 = .ok (.goto 10, 3) := by decide +kernel
theorem dX5_answer_26 : decode cX5_answer 26 = .ok (.bipush (-20), 2) := by decide +kernel
theorem dX5_answer_28 : decode cX5_answer 28 = .ok (.aload_n 0, 1) := by decide +kernel
theorem dX5_answer_29 : decode cX5_answer 29 = .ok (.getfield 42, 3) := by decide +kernel
theorem dX5_answer_32 : decode cX5_answer 32 = .ok (.isub, 1) := by decide +kernel
theorem dX5_answer_33 : decode cX5_answer 33 = .ok (.ireturn, 1) := by decide +kernel
theorem dX5_refuse_0 : decode cX5_refuse 0 = .ok (.aload_n 0, 1) := by decide +kernel
theorem dX5_refuse_1 : decode cX5_refuse 1 = .ok (.getfield 42, 3) := by decide +kernel
theorem dX5_refuse_4 : decode cX5_refuse 4 = .ok (.ifCond .ge 8, 3) := by decide +kernel
theorem dX5_refuse_7 : decode cX5_refuse 7 = .ok (.aload_n 0, 1) := by decide +kernel
theorem dX5_refuse_8 : decode cX5_refuse 8 = .ok (.iload_n 1, 1) := by decide +kernel
theorem dX5_refuse_9 : decode cX5_refuse 9 = .ok (.putfield 42, 3) := by decide +kernel
theorem dX5_refuse_12 : decode cX5_refuse 12 = .ok (.return_, 1) := by decide +kernel
theorem dX5_refuseEnd_0 : decode cX5_refuseEnd 0 = .ok (.aload_n 0, 1) := by decide +kernel
theorem dX5_refuseEnd_1 : decode cX5_refuseEnd 1 = .ok (.invokevirtual 49, 3) := by decide +kernel
theorem dX5_refuseEnd_4 : decode cX5_refuseEnd 4 = .ok (.ifCond .eq 11, 3) := by decide +kernel
theorem dX5_refuseEnd_7 : decode cX5_refuseEnd 7 = .ok (.aload_n 0, 1) := by decide +kernel
theorem dX5_refuseEnd_8 : decode cX5_refuseEnd 8 = .ok (.aload_n 0, 1) := by decide +kernel
theorem dX5_refuseEnd_9 : decode cX5_refuseEnd 9 = .ok (.getfield 9, 3) := by decide +kernel
theorem dX5_refuseEnd_12 : decode cX5_refuseEnd 12 = .ok (.invokevirtual 98, 3) := by decide +kernel
theorem dX5_refuseEnd_15 : decode cX5_refuseEnd 15 = .ok (.return_, 1) := by decide +kernel
theorem dX5_isAtEnd_0 : decode cX5_isAtEnd 0 = .ok (.aload_n 0, 1) := by decide +kernel
theorem dX5_isAtEnd_1 : decode cX5_isAtEnd 1 = .ok (.getfield 39, 3) := by decide +kernel
theorem dX5_isAtEnd_4 : decode cX5_isAtEnd 4 = .ok (.aload_n 0, 1) := by decide +kernel
theorem dX5_isAtEnd_5 : decode cX5_isAtEnd 5 = .ok (.getfield 9, 3) := by decide +kernel
theorem dX5_isAtEnd_8 : decode cX5_isAtEnd 8 = .ok (.if_icmp .ge 30, 3) := by decide +kernel
theorem dX5_isAtEnd_11 : decode cX5_isAtEnd 11 = .ok (.aload_n 0, 1) := by decide +kernel
theorem dX5_isAtEnd_12 : decode cX5_isAtEnd 12 = .ok (.getfield 35, 3) := by decide +kernel
theorem dX5_isAtEnd_15 : decode cX5_isAtEnd 15 = .ok (.aload_n 0, 1) := by decide +kernel
theorem dX5_isAtEnd_16 : decode cX5_isAtEnd 16 = .ok (.getfield 39, 3) := by decide +kernel
theorem dX5_isAtEnd_19 : decode cX5_isAtEnd 19 = .ok (.caload, 1) := by decide +kernel
theorem dX5_isAtEnd_20 : decode cX5_isAtEnd 20 = .ok (.bipush 32, 2) := by decide +kernel
theorem dX5_isAtEnd_22 : decode cX5_isAtEnd 22 = .ok (.if_icmp .ne 16, 3) := by decide +kernel
theorem dX5_isAtEnd_25 : decode cX5_isAtEnd 25 = .ok (.aload_n 0, 1) := by decide +kernel
theorem dX5_isAtEnd_26 : decode cX5_isAtEnd 26 = .ok (.dup, 1) := by decide +kernel
theorem dX5_isAtEnd_27 : decode cX5_isAtEnd 27 = .ok (.getfield 39, 3) := by decide +kernel
theorem dX5_isAtEnd_30 : decode cX5_isAtEnd 30 = .ok (.iconst 1, 1) := by decide +kernel
theorem dX5_isAtEnd_31 : decode cX5_isAtEnd 31 = .ok (.iadd, 1) := by decide +kernel
theorem dX5_isAtEnd_32 : decode cX5_isAtEnd 32 = .ok (.putfield 39, 3) := by decide +kernel
theorem dX5_isAtEnd_35 : decode cX5_isAtEnd 35 = .ok (.goto (-35), 3) := by decide +kernel
theorem dX5_isAtEnd_38 : decode cX5_isAtEnd 38 = .ok (.aload_n 0, 1) := by decide +kernel
theorem dX5_isAtEnd_39 : decode cX5_isAtEnd 39 = .ok (.getfield 39, 3) := by decide +kernel
theorem dX5_isAtEnd_42 : decode cX5_isAtEnd 42 = .ok (.aload_n 0, 1) := by decide +kernel
theorem dX5_isAtEnd_43 : decode cX5_isAtEnd 43 = .ok (.getfield 9, 3) := by decide +kernel
theorem dX5_isAtEnd_46 : decode cX5_isAtEnd 46 = .ok (.if_icmp .lt 7, 3) := by decide +kernel
theorem dX5_isAtEnd_49 : decode cX5_isAtEnd 49 = .ok (.iconst 1, 1) := by decide +kernel
theorem dX5_isAtEnd_50 : decode cX5_isAtEnd 50 = .ok (.goto 4, 3) := by decide +kernel
theorem dX5_isAtEnd_53 : decode cX5_isAtEnd 53 = .ok (.iconst 0, 1) := by decide +kernel
theorem dX5_isAtEnd_54 : decode cX5_isAtEnd 54 = .ok (.ireturn, 1) := by decide +kernel
theorem dX5_isNext_0 : decode cX5_isNext 0 = .ok (.aload_n 0, 1) := by decide +kernel
theorem dX5_isNext_1 : decode cX5_isNext 1 = .ok (.invokevirtual 49, 3) := by decide +kernel
theorem dX5_isNext_4 : decode cX5_isNext 4 = .ok (.ifCond .ne 20, 3) := by decide +kernel
theorem dX5_isNext_7 : decode cX5_isNext 7 = .ok (.aload_n 0, 1) := by decide +kernel
theorem dX5_isNext_8 : decode cX5_isNext 8 = .ok (.getfield 35, 3) := by decide +kernel
theorem dX5_isNext_11 : decode cX5_isNext 11 = .ok (.aload_n 0, 1) := by decide +kernel
theorem dX5_isNext_12 : decode cX5_isNext 12 = .ok (.getfield 39, 3) := by decide +kernel
theorem dX5_isNext_15 : decode cX5_isNext 15 = .ok (.caload, 1) := by decide +kernel
theorem dX5_isNext_16 : decode cX5_isNext 16 = .ok (.iload_n 1, 1) := by decide +kernel
theorem dX5_isNext_17 : decode cX5_isNext 17 = .ok (.if_icmp .ne 7, 3) := by decide +kernel
theorem dX5_isNext_20 : decode cX5_isNext 20 = .ok (.iconst 1, 1) := by decide +kernel
theorem dX5_isNext_21 : decode cX5_isNext 21 = .ok (.goto 4, 3) := by decide +kernel
theorem dX5_isNext_24 : decode cX5_isNext 24 = .ok (.iconst 0, 1) := by decide +kernel
theorem dX5_isNext_25 : decode cX5_isNext 25 = .ok (.ireturn, 1) := by decide +kernel
theorem dX5_pass_0 : decode cX5_pass 0 = .ok (.aload_n 0, 1) := by decide +kernel
theorem dX5_pass_1 : decode cX5_pass 1 = .ok (.getfield 42, 3) := by decide +kernel
theorem dX5_pass_4 : decode cX5_pass 4 = .ok (.ifCond .ge 24, 3) := by decide +kernel
theorem dX5_pass_7 : decode cX5_pass 7 = .ok (.aload_n 0, 1) := by decide +kernel
theorem dX5_pass_8 : decode cX5_pass 8 = .ok (.iload_n 1, 1) := by decide +kernel
theorem dX5_pass_9 : decode cX5_pass 9 = .ok (.invokevirtual 91, 3) := by decide +kernel
theorem dX5_pass_12 : decode cX5_pass 12 = .ok (.ifCond .eq 16, 3) := by decide +kernel
theorem dX5_pass_15 : decode cX5_pass 15 = .ok (.aload_n 0, 1) := by decide +kernel
theorem dX5_pass_16 : decode cX5_pass 16 = .ok (.dup, 1) := by decide +kernel
theorem dX5_pass_17 : decode cX5_pass 17 = .ok (.getfield 39, 3) := by decide +kernel
theorem dX5_pass_20 : decode cX5_pass 20 = .ok (.iconst 1, 1) := by decide +kernel
theorem dX5_pass_21 : decode cX5_pass 21 = .ok (.iadd, 1) := by decide +kernel
theorem dX5_pass_22 : decode cX5_pass 22 = .ok (.putfield 39, 3) := by decide +kernel
theorem dX5_pass_25 : decode cX5_pass 25 = .ok (.goto 11, 3) := by decide +kernel
theorem dX5_pass_28 : decode cX5_pass 28 = .ok (.aload_n 0, 1) := by decide +kernel
theorem dX5_pass_29 : decode cX5_pass 29 = .ok (.aload_n 0, 1) := by decide +kernel
theorem dX5_pass_30 : decode cX5_pass 30 = .ok (.getfield 39, 3) := by decide +kernel
theorem dX5_pass_33 : decode cX5_pass 33 = .ok (.invokevirtual 98, 3) := by decide +kernel
theorem dX5_pass_36 : decode cX5_pass 36 = .ok (.return_, 1) := by decide +kernel
theorem dX5_oneOf_0 : decode cX5_oneOf 0 = .ok (.aload_n 0, 1) := by decide +kernel
theorem dX5_oneOf_1 : decode cX5_oneOf 1 = .ok (.getfield 42, 3) := by decide +kernel
theorem dX5_oneOf_4 : decode cX5_oneOf 4 = .ok (.ifCond .ge 10, 3) := by decide +kernel
theorem dX5_oneOf_7 : decode cX5_oneOf 7 = .ok (.aload_n 0, 1) := by decide +kernel
theorem dX5_oneOf_8 : decode cX5_oneOf 8 = .ok (.invokevirtual 49, 3) := by decide +kernel
theorem dX5_oneOf_11 : decode cX5_oneOf 11 = .ok (.ifCond .eq 7, 3) := by decide +kernel
theorem dX5_oneOf_14 : decode cX5_oneOf 14 = .ok (.iconst (-1), 1) := by decide +kernel
theorem dX5_oneOf_15 : decode cX5_oneOf 15 = .ok (.goto 16, 3) := by decide +kernel
theorem dX5_oneOf_18 : decode cX5_oneOf 18 = .ok (.aload_n 1, 1) := by decide +kernel
theorem dX5_oneOf_19 : decode cX5_oneOf 19 = .ok (.aload_n 0, 1) := by decide +kernel
theorem dX5_oneOf_20 : decode cX5_oneOf 20 = .ok (.getfield 35, 3) := by decide +kernel
theorem dX5_oneOf_23 : decode cX5_oneOf 23 = .ok (.aload_n 0, 1) := by decide +kernel
theorem dX5_oneOf_24 : decode cX5_oneOf 24 = .ok (.getfield 39, 3) := by decide +kernel
theorem dX5_oneOf_27 : decode cX5_oneOf 27 = .ok (.caload, 1) := by decide +kernel
theorem dX5_oneOf_28 : decode cX5_oneOf 28 = .ok (.invokevirtual 101, 3) := by decide +kernel
theorem dX5_oneOf_31 : decode cX5_oneOf 31 = .ok (.istore_n 2, 1) := by decide +kernel
theorem dX5_oneOf_32 : decode cX5_oneOf 32 = .ok (.iload_n 2, 1) := by decide +kernel
theorem dX5_oneOf_33 : decode cX5_oneOf 33 = .ok (.ifCond .ge 13, 3) := by decide +kernel
theorem dX5_oneOf_36 : decode cX5_oneOf 36 = .ok (.aload_n 0, 1) := by decide +kernel
theorem dX5_oneOf_37 : decode cX5_oneOf 37 = .ok (.aload_n 0, 1) := by decide +kernel
theorem dX5_oneOf_38 : decode cX5_oneOf 38 = .ok (.getfield 39, 3) := by decide +kernel
theorem dX5_oneOf_41 : decode cX5_oneOf 41 = .ok (.invokevirtual 98, 3) := by decide +kernel
theorem dX5_oneOf_44 : decode cX5_oneOf 44 = .ok (.iconst 0, 1) := by decide +kernel
theorem dX5_oneOf_45 : decode cX5_oneOf 45 = .ok (.ireturn, 1) := by decide +kernel
theorem dX5_oneOf_46 : decode cX5_oneOf 46 = .ok (.aload_n 0, 1) := by decide +kernel
theorem dX5_oneOf_47 : decode cX5_oneOf 47 = .ok (.dup, 1) := by decide +kernel
theorem dX5_oneOf_48 : decode cX5_oneOf 48 = .ok (.getfield 39, 3) := by decide +kernel
theorem dX5_oneOf_51 : decode cX5_oneOf 51 = .ok (.iconst 1, 1) := by decide +kernel
theorem dX5_oneOf_52 : decode cX5_oneOf 52 = .ok (.iadd, 1) := by decide +kernel
theorem dX5_oneOf_53 : decode cX5_oneOf 53 = .ok (.putfield 39, 3) := by decide +kernel
theorem dX5_oneOf_56 : decode cX5_oneOf 56 = .ok (.iload_n 2, 1) := by decide +kernel
theorem dX5_oneOf_57 : decode cX5_oneOf 57 = .ok (.ireturn, 1) := by decide +kernel
theorem dX5_readNumber_0 : decode cX5_readNumber 0 = .ok (.aload_n 0, 1) := by decide +kernel
theorem dX5_readNumber_1 : decode cX5_readNumber 1 = .ok (.getfield 42, 3) := by decide +kernel
theorem dX5_readNumber_4 : decode cX5_readNumber 4 = .ok (.ifCond .ge 25, 3) := by decide +kernel
theorem dX5_readNumber_7 : decode cX5_readNumber 7 = .ok (.aload_n 0, 1) := by decide +kernel
theorem dX5_readNumber_8 : decode cX5_readNumber 8 = .ok (.invokevirtual 49, 3) := by decide +kernel
theorem dX5_readNumber_11 : decode cX5_readNumber 11 = .ok (.ifCond .ne 18, 3) := by decide +kernel
theorem dX5_readNumber_14 : decode cX5_readNumber 14 = .ok (.aload_n 0, 1) := by decide +kernel
theorem dX5_readNumber_15 : decode cX5_readNumber 15 = .ok (.getfield 35, 3) := by decide +kernel
theorem dX5_readNumber_18 : decode cX5_readNumber 18 = .ok (.aload_n 0, 1) := by decide +kernel
theorem dX5_readNumber_19 : decode cX5_readNumber 19 = .ok (.getfield 39, 3) := by decide +kernel
theorem dX5_readNumber_22 : decode cX5_readNumber 22 = .ok (.caload, 1) := by decide +kernel
theorem dX5_readNumber_23 : decode cX5_readNumber 23 = .ok (.invokestatic 106, 3) := by decide +kernel
theorem dX5_readNumber_26 : decode cX5_readNumber 26 = .ok (.ifCond .ne 13, 3) := by decide +kernel
theorem dX5_readNumber_29 : decode cX5_readNumber 29 = .ok (.aload_n 0, 1) := by decide +kernel
theorem dX5_readNumber_30 : decode cX5_readNumber 30 = .ok (.aload_n 0, 1) := by decide +kernel
theorem dX5_readNumber_31 : decode cX5_readNumber 31 = .ok (.getfield 39, 3) := by decide +kernel
theorem dX5_readNumber_34 : decode cX5_readNumber 34 = .ok (.invokevirtual 98, 3) := by decide +kernel
theorem dX5_readNumber_37 : decode cX5_readNumber 37 = .ok (.iconst 0, 1) := by decide +kernel
theorem dX5_readNumber_38 : decode cX5_readNumber 38 = .ok (.ireturn, 1) := by decide +kernel
theorem dX5_readNumber_39 : decode cX5_readNumber 39 = .ok (.aload_n 0, 1) := by decide +kernel
theorem dX5_readNumber_40 : decode cX5_readNumber 40 = .ok (.getfield 39, 3) := by decide +kernel
theorem dX5_readNumber_43 : decode cX5_readNumber 43 = .ok (.istore_n 2, 1) := by decide +kernel
theorem dX5_readNumber_44 : decode cX5_readNumber 44 = .ok (.iconst 0, 1) := by decide +kernel
theorem dX5_readNumber_45 : decode cX5_readNumber 45 = .ok (.istore_n 3, 1) := by decide +kernel
theorem dX5_readNumber_46 : decode cX5_readNumber 46 = .ok (.aload_n 0, 1) := by decide +kernel
theorem dX5_readNumber_47 : decode cX5_readNumber 47 = .ok (.getfield 39, 3) := by decide +kernel
theorem dX5_readNumber_50 : decode cX5_readNumber 50 = .ok (.aload_n 0, 1) := by decide +kernel
theorem dX5_readNumber_51 : decode cX5_readNumber 51 = .ok (.getfield 9, 3) := by decide +kernel
theorem dX5_readNumber_54 : decode cX5_readNumber 54 = .ok (.if_icmp .ge 55, 3) := by decide +kernel
theorem dX5_readNumber_57 : decode cX5_readNumber 57 = .ok (.aload_n 0, 1) := by decide +kernel
theorem dX5_readNumber_58 : decode cX5_readNumber 58 = .ok (.getfield 35, 3) := by decide +kernel
theorem dX5_readNumber_61 : decode cX5_readNumber 61 = .ok (.aload_n 0, 1) := by decide +kernel
theorem dX5_readNumber_62 : decode cX5_readNumber 62 = .ok (.getfield 39, 3) := by decide +kernel
theorem dX5_readNumber_65 : decode cX5_readNumber 65 = .ok (.caload, 1) := by decide +kernel
theorem dX5_readNumber_66 : decode cX5_readNumber 66 = .ok (.invokestatic 106, 3) := by decide +kernel
theorem dX5_readNumber_69 : decode cX5_readNumber 69 = .ok (.ifCond .eq 40, 3) := by decide +kernel
theorem dX5_readNumber_72 : decode cX5_readNumber 72 = .ok (.iload_n 3, 1) := by decide +kernel
theorem dX5_readNumber_73 : decode cX5_readNumber 73 = .ok (.bipush 10, 2) := by decide +kernel
theorem dX5_readNumber_75 : decode cX5_readNumber 75 = .ok (.imul, 1) := by decide +kernel
theorem dX5_readNumber_76 : decode cX5_readNumber 76 = .ok (.aload_n 0, 1) := by decide +kernel
theorem dX5_readNumber_77 : decode cX5_readNumber 77 = .ok (.getfield 35, 3) := by decide +kernel
theorem dX5_readNumber_80 : decode cX5_readNumber 80 = .ok (.aload_n 0, 1) := by decide +kernel
theorem dX5_readNumber_81 : decode cX5_readNumber 81 = .ok (.getfield 39, 3) := by decide +kernel
theorem dX5_readNumber_84 : decode cX5_readNumber 84 = .ok (.caload, 1) := by decide +kernel
theorem dX5_readNumber_85 : decode cX5_readNumber 85 = .ok (.iadd, 1) := by decide +kernel
theorem dX5_readNumber_86 : decode cX5_readNumber 86 = .ok (.bipush 48, 2) := by decide +kernel
theorem dX5_readNumber_88 : decode cX5_readNumber 88 = .ok (.isub, 1) := by decide +kernel
theorem dX5_readNumber_89 : decode cX5_readNumber 89 = .ok (.iload_n 1, 1) := by decide +kernel
theorem dX5_readNumber_90 : decode cX5_readNumber 90 = .ok (.iconst 1, 1) := by decide +kernel
theorem dX5_readNumber_91 : decode cX5_readNumber 91 = .ok (.iadd, 1) := by decide +kernel
theorem dX5_readNumber_92 : decode cX5_readNumber 92 = .ok (.invokestatic 109, 3) := by decide +kernel
theorem dX5_readNumber_95 : decode cX5_readNumber 95 = .ok (.istore_n 3, 1) := by decide +kernel
theorem dX5_readNumber_96 : decode cX5_readNumber 96 = .ok (.aload_n 0, 1) := by decide +kernel
theorem dX5_readNumber_97 : decode cX5_readNumber 97 = .ok (.dup, 1) := by decide +kernel
theorem dX5_readNumber_98 : decode cX5_readNumber 98 = .ok (.getfield 39, 3) := by decide +kernel
theorem dX5_readNumber_101 : decode cX5_readNumber 101 = .ok (.iconst 1, 1) := by decide +kernel
theorem dX5_readNumber_102 : decode cX5_readNumber 102 = .ok (.iadd, 1) := by decide +kernel
theorem dX5_readNumber_103 : decode cX5_readNumber 103 = .ok (.putfield 39, 3) := by decide +kernel
theorem dX5_readNumber_106 : decode cX5_readNumber 106 = .ok (.goto (-60), 3) := by decide +kernel
theorem dX5_readNumber_109 : decode cX5_readNumber 109 = .ok (.iload_n 3, 1) := by decide +kernel
theorem dX5_readNumber_110 : decode cX5_readNumber 110 = .ok (.iload_n 1, 1) := by decide +kernel
theorem dX5_readNumber_111 : decode cX5_readNumber 111 = .ok (.if_icmp .le 8, 3) := by decide +kernel
theorem dX5_readNumber_114 : decode cX5_readNumber 114 = .ok (.aload_n 0, 1) := by decide +kernel
theorem dX5_readNumber_115 : decode cX5_readNumber 115 = .ok (.iload_n 2, 1) := by decide +kernel
theorem dX5_readNumber_116 : decode cX5_readNumber 116 = .ok (.invokevirtual 98, 3) := by decide +kernel
theorem dX5_readNumber_119 : decode cX5_readNumber 119 = .ok (.iload_n 3, 1) := by decide +kernel
theorem dX5_readNumber_120 : decode cX5_readNumber 120 = .ok (.ireturn, 1) := by decide +kernel
theorem dX5_isDigit_0 : decode cX5_isDigit 0 = .ok (.iload_n 0, 1) := by decide +kernel
theorem dX5_isDigit_1 : decode cX5_isDigit 1 = .ok (.bipush 48, 2) := by decide +kernel
theorem dX5_isDigit_3 : decode cX5_isDigit 3 = .ok (.if_icmp .lt 13, 3) := by decide +kernel
theorem dX5_isDigit_6 : decode cX5_isDigit 6 = .ok (.iload_n 0, 1) := by decide +kernel
theorem dX5_isDigit_7 : decode cX5_isDigit 7 = .ok (.bipush 57, 2) := by decide +kernel
theorem dX5_isDigit_9 : decode cX5_isDigit 9 = .ok (.if_icmp .gt 7, 3) := by decide +kernel
theorem dX5_isDigit_12 : decode cX5_isDigit 12 = .ok (.iconst 1, 1) := by decide +kernel
theorem dX5_isDigit_13 : decode cX5_isDigit 13 = .ok (.goto 4, 3) := by decide +kernel
theorem dX5_isDigit_16 : decode cX5_isDigit 16 = .ok (.iconst 0, 1) := by decide +kernel
theorem dX5_isDigit_17 : decode cX5_isDigit 17 = .ok (.ireturn, 1) := by decide +kernel
theorem dX6_init_0 : decode cX6_init 0 = .ok (.aload_n 0, 1) := by decide +kernel
theorem dX6_init_1 : decode cX6_init 1 = .ok (.invokespecial 3, 3) := by decide +kernel
theorem dX6_init_4 : decode cX6_init 4 = .ok (.aload_n 0, 1) := by decide +kernel
theorem dX6_init_5 : decode cX6_init 5 = .ok (.new 9, 3) := by decide +kernel
theorem dX6_init_8 : decode cX6_init 8 = .ok (.dup, 1) := by decide +kernel
theorem dX6_init_9 : decode cX6_init 9 = .ok (.invokespecial 11, 3) := by decide +kernel
theorem dX6_init_12 : decode cX6_init 12 = .ok (.putfield 12, 3) := by decide +kernel
theorem dX6_init_15 : decode cX6_init 15 = .ok (.aload_n 0, 1) := by decide +kernel
theorem dX6_init_16 : decode cX6_init 16 = .ok (.new 18, 3) := by decide +kernel
theorem dX6_init_19 : decode cX6_init 19 = .ok (.dup, 1) := by decide +kernel
theorem dX6_init_20 : decode cX6_init 20 = .ok (.invokespecial 20, 3) := by decide +kernel
theorem dX6_init_23 : decode cX6_init 23 = .ok (.putfield 21, 3) := by decide +kernel
theorem dX6_init_26 : decode cX6_init 26 = .ok (.aload_n 0, 1) := by decide +kernel
theorem dX6_init_27 : decode cX6_init 27 = .ok (.aconst_null, 1) := by decide +kernel
theorem dX6_init_28 : decode cX6_init 28 = .ok (.putfield 25, 3) := by decide +kernel
theorem dX6_init_31 : decode cX6_init 31 = .ok (.aload_n 0, 1) := by decide +kernel
theorem dX6_init_32 : decode cX6_init 32 = .ok (.iconst 0, 1) := by decide +kernel
theorem dX6_init_33 : decode cX6_init 33 = .ok (.putfield 29, 3) := by decide +kernel
theorem dX6_init_36 : decode cX6_init 36 = .ok (.aload_n 0, 1) := by decide +kernel
theorem dX6_init_37 : decode cX6_init 37 = .ok (.iconst 0, 1) := by decide +kernel
theorem dX6_init_38 : decode cX6_init 38 = .ok (.putfield 33, 3) := by decide +kernel
theorem dX6_init_41 : decode cX6_init 41 = .ok (.aload_n 0, 1) := by decide +kernel
theorem dX6_init_42 : decode cX6_init 42 = .ok (.iconst 0, 1) := by decide +kernel
theorem dX6_init_43 : decode cX6_init 43 = .ok (.putfield 36, 3) := by decide +kernel
theorem dX6_init_46 : decode cX6_init 46 = .ok (.aload_n 0, 1) := by decide +kernel
theorem dX6_init_47 : decode cX6_init 47 = .ok (.aload_n 1, 1) := by decide +kernel
theorem dX6_init_48 : decode cX6_init 48 = .ok (.putfield 39, 3) := by decide +kernel
theorem dX6_init_51 : decode cX6_init 51 = .ok (.aload_n 0, 1) := by decide +kernel
theorem dX6_init_52 : decode cX6_init 52 = .ok (.aload_n 2, 1) := by decide +kernel
theorem dX6_init_53 : decode cX6_init 53 = .ok (.putfield 42, 3) := by decide +kernel
theorem dX6_init_56 : decode cX6_init 56 = .ok (.return_, 1) := by decide +kernel
theorem dX6_begin_0 : decode cX6_begin 0 = .ok (.aload_n 0, 1) := by decide +kernel
theorem dX6_begin_1 : decode cX6_begin 1 = .ok (.getfield 12, 3) := by decide +kernel
theorem dX6_begin_4 : decode cX6_begin 4 = .ok (.aload_n 0, 1) := by decide +kernel
theorem dX6_begin_5 : decode cX6_begin 5 = .ok (.getfield 39, 3) := by decide +kernel
theorem dX6_begin_8 : decode cX6_begin 8 = .ok (.invokevirtual 45, 3) := by decide +kernel
theorem dX6_begin_11 : decode cX6_begin 11 = .ok (.iconst 0, 1) := by decide +kernel
theorem dX6_begin_12 : decode cX6_begin 12 = .ok (.istore_n 2, 1) := by decide +kernel
theorem dX6_begin_13 : decode cX6_begin 13 = .ok (.iload_n 2, 1) := by decide +kernel
theorem dX6_begin_14 : decode cX6_begin 14 = .ok (.aload_n 0, 1) := by decide +kernel
theorem dX6_begin_15 : decode cX6_begin 15 = .ok (.getfield 12, 3) := by decide +kernel
theorem dX6_begin_18 : decode cX6_begin 18 = .ok (.getfield 49, 3) := by decide +kernel
theorem dX6_begin_21 : decode cX6_begin 21 = .ok (.if_icmp .ge 27, 3) := by decide +kernel
theorem dX6_begin_24 : decode cX6_begin 24 = .ok (.iload_n 1, 1) := by decide +kernel
theorem dX6_begin_25 : decode cX6_begin 25 = .ok (.iload_n 2, 1) := by decide +kernel
theorem dX6_begin_26 : decode cX6_begin 26 = .ok (.ishr, 1) := by decide +kernel
theorem dX6_begin_27 : decode cX6_begin 27 = .ok (.iconst 1, 1) := by decide +kernel
theorem dX6_begin_28 : decode cX6_begin 28 = .ok (.iand, 1) := by decide +kernel
theorem dX6_begin_29 : decode cX6_begin 29 = .ok (.ifCond .eq 13, 3) := by decide +kernel
theorem dX6_begin_32 : decode cX6_begin 32 = .ok (.aload_n 0, 1) := by decide +kernel
theorem dX6_begin_33 : decode cX6_begin 33 = .ok (.getfield 12, 3) := by decide +kernel
theorem dX6_begin_36 : decode cX6_begin 36 = .ok (.getfield 52, 3) := by decide +kernel
theorem dX6_begin_39 : decode cX6_begin 39 = .ok (.iload_n 2, 1) := by decide +kernel
theorem dX6_begin_40 : decode cX6_begin 40 = .ok (.iconst 1, 1) := by decide +kernel
theorem dX6_begin_41 : decode cX6_begin 41 = .ok (.iastore, 1) := by decide +kernel
theorem dX6_begin_42 : decode cX6_begin 42 = .ok (.iinc 2 1, 3) := by decide +kernel
theorem dX6_begin_45 : decode cX6_begin 45 = .ok (.goto (-32), 3) := by decide +kernel
theorem dX6_begin_48 : decode cX6_begin 48 = .ok (.return_, 1) := by decide +kernel
theorem dX6_run_0 : decode cX6_run 0 = .ok (.aload_n 0, 1) := by decide +kernel
theorem dX6_run_1 : decode cX6_run 1 = .ok (.iconst 0, 1) := by decide +kernel
theorem dX6_run_2 : decode cX6_run 2 = .ok (.invokevirtual 56, 3) := by decide +kernel
theorem dX6_run_5 : decode cX6_run 5 = .ok (.iconst 0, 1) := by decide +kernel
theorem dX6_run_6 : decode cX6_run 6 = .ok (.istore_n 3, 1) := by decide +kernel
theorem dX6_run_7 : decode cX6_run 7 = .ok (.iload_n 3, 1) := by decide +kernel
theorem dX6_run_8 : decode cX6_run 8 = .ok (.iload_n 2, 1) := by decide +kernel
theorem dX6_run_9 : decode cX6_run 9 = .ok (.if_icmp .ge 30, 3) := by decide +kernel
theorem dX6_run_12 : decode cX6_run 12 = .ok (.aload_n 0, 1) := by decide +kernel
theorem dX6_run_13 : decode cX6_run 13 = .ok (.getfield 12, 3) := by decide +kernel
theorem dX6_run_16 : decode cX6_run 16 = .ok (.aload_n 1, 1) := by decide +kernel
theorem dX6_run_17 : decode cX6_run 17 = .ok (.iconst 0, 1) := by decide +kernel
theorem dX6_run_18 : decode cX6_run 18 = .ok (.invokevirtual 60, 3) := by decide +kernel
theorem dX6_run_21 : decode cX6_run 21 = .ok (.pop, 1) := by decide +kernel
theorem dX6_run_22 : decode cX6_run 22 = .ok (.aload_n 0, 1) := by decide +kernel
theorem dX6_run_23 : decode cX6_run 23 = .ok (.getfield 12, 3) := by decide +kernel
theorem dX6_run_26 : decode cX6_run 26 = .ok (.invokevirtual 64, 3) := by decide +kernel
theorem dX6_run_29 : decode cX6_run 29 = .ok (.ifCond .eq 4, 3) := by decide +kernel
theorem dX6_run_32 : decode cX6_run 32 = .ok (.return_, 1) := by decide +kernel
theorem dX6_run_33 : decode cX6_run 33 = .ok (.iinc 3 1, 3) := by decide +kernel
theorem dX6_run_36 : decode cX6_run 36 = .ok (.goto (-29), 3) := by decide +kernel
theorem dX6_run_39 : decode cX6_run 39 = .ok (.return_, 1) := by decide +kernel
theorem dX6_until_0 : decode cX6_until 0 = .ok (.iconst 0, 1) := by decide +kernel
theorem dX6_until_1 : decode cX6_until 1 = .ok (.istore 4, 2) := by decide +kernel
theorem dX6_until_3 : decode cX6_until 3 = .ok (.iload 4, 2) := by decide +kernel
theorem dX6_until_5 : decode cX6_until 5 = .ok (.bipush 60, 2) := by decide +kernel
theorem dX6_until_7 : decode cX6_until 7 = .ok (.if_icmp .gt 63, 3) := by decide +kernel
theorem dX6_until_10 : decode cX6_until 10 = .ok (.aload_n 0, 1) := by decide +kernel
theorem dX6_until_11 : decode cX6_until 11 = .ok (.iload_n 2, 1) := by decide +kernel
theorem dX6_until_12 : decode cX6_until 12 = .ok (.iload_n 3, 1) := by decide +kernel
theorem dX6_until_13 : decode cX6_until 13 = .ok (.invokevirtual 68, 3) := by decide +kernel
theorem dX6_until_16 : decode cX6_until 16 = .ok (.ifCond .eq 6, 3) := by decide +kernel
theorem dX6_until_19 : decode cX6_until 19 = .ok (.iload 4, 2) := by decide +kernel
theorem dX6_until_21 : decode cX6_until 21 = .ok (.ireturn, 1) := by decide +kernel
theorem dX6_until_22 : decode cX6_until 22 = .ok (.iload_n 2, 1) := by decide +kernel
theorem dX6_until_23 : decode cX6_until 23 = .ok (.iconst 1, 1) := by decide +kernel
theorem dX6_until_24 : decode cX6_until 24 = .ok (.if_icmp .ne 17, 3) := by decide +kernel
theorem dX6_until_27 : decode cX6_until 27 = .ok (.aload_n 0, 1) := by decide +kernel
theorem dX6_until_28 : decode cX6_until 28 = .ok (.getfield 12, 3) := by decide +kernel
theorem dX6_until_31 : decode cX6_until 31 = .ok (.iconst 0, 1) := by decide +kernel
theorem dX6_until_32 : decode cX6_until 32 = .ok (.invokevirtual 72, 3) := by decide +kernel
theorem dX6_until_35 : decode cX6_until 35 = .ok (.ifCond .eq 6, 3) := by decide +kernel
theorem dX6_until_38 : decode cX6_until 38 = .ok (.bipush 61, 2) := by decide +kernel
theorem dX6_until_40 : decode cX6_until 40 = .ok (.ireturn, 1) := by decide +kernel
theorem dX6_until_41 : decode cX6_until 41 = .ok (.aload_n 0, 1) := by decide +kernel
theorem dX6_until_42 : decode cX6_until 42 = .ok (.getfield 12, 3) := by decide +kernel
theorem dX6_until_45 : decode cX6_until 45 = .ok (.aload_n 1, 1) := by decide +kernel
theorem dX6_until_46 : decode cX6_until 46 = .ok (.iconst 0, 1) := by decide +kernel
theorem dX6_until_47 : decode cX6_until 47 = .ok (.invokevirtual 60, 3) := by decide +kernel
theorem dX6_until_50 : decode cX6_until 50 = .ok (.pop, 1) := by decide +kernel
theorem dX6_until_51 : decode cX6_until 51 = .ok (.aload_n 0, 1) := by decide +kernel
theorem dX6_until_52 : decode cX6_until 52 = .ok (.getfield 12, 3) := by decide +kernel
theorem dX6_until_55 : decode cX6_until 55 = .ok (.invokevirtual 64, 3) := by decide +kernel
theorem dX6_until_58 : decode cX6_until 58 = .ok (.ifCond .eq 6, 3) := by decide +kernel
theorem dX6_until_61 : decode cX6_until 61 = .ok (.bipush 61, 2) := by decide +kernel
theorem dX6_until_63 : decode cX6_until 63 = .ok (.ireturn, 1) := by decide +kernel
theorem dX6_until_64 : decode cX6_until 64 = .ok (.iinc 4 1, 3) := by decide +kernel
theorem dX6_until_67 : decode cX6_until 67 = .ok (.goto (-64), 3) := by decide +kernel
theorem dX6_until_70 : decode cX6_until 70 = .ok (.bipush 61, 2) := by decide +kernel
theorem dX6_until_72 : decode cX6_until 72 = .ok (.ireturn, 1) := by decide +kernel
theorem dX6_isAt_0 : decode cX6_isAt 0 = .ok (.iload_n 1, 1) := by decide +kernel
theorem dX6_isAt_1 : decode cX6_isAt 1 = .ok (.lookupswitch 44 #[(0, 27), (1, 36)], 27) := by decide +kernel
theorem dX6_isAt_28 : decode cX6_isAt 28 = .ok (.aload_n 0, 1) := by decide +kernel
theorem dX6_isAt_29 : decode cX6_isAt 29 = .ok (.getfield 12, 3) := by decide +kernel
theorem dX6_isAt_32 : decode cX6_isAt 32 = .ok (.iload_n 2, 1) := by decide +kernel
theorem dX6_isAt_33 : decode cX6_isAt 33 = .ok (.invokevirtual 72, 3) := by decide +kernel
theorem dX6_isAt_36 : decode cX6_isAt 36 = .ok (.ireturn, 1) := by decide +kernel
theorem dX6_isAt_37 : decode cX6_isAt 37 = .ok (.aload_n 0, 1) := by decide +kernel
theorem dX6_isAt_38 : decode cX6_isAt 38 = .ok (.getfield 12, 3) := by decide +kernel
theorem dX6_isAt_41 : decode cX6_isAt 41 = .ok (.invokevirtual 76, 3) := by decide +kernel
theorem dX6_isAt_44 : decode cX6_isAt 44 = .ok (.ireturn, 1) := by decide +kernel
theorem dX6_isAt_45 : decode cX6_isAt 45 = .ok (.aload_n 0, 1) := by decide +kernel
theorem dX6_isAt_46 : decode cX6_isAt 46 = .ok (.getfield 25, 3) := by decide +kernel
theorem dX6_isAt_49 : decode cX6_isAt 49 = .ok (.ifnull 25, 3) := by decide +kernel
theorem dX6_isAt_52 : decode cX6_isAt 52 = .ok (.aload_n 0, 1) := by decide +kernel
theorem dX6_isAt_53 : decode cX6_isAt 53 = .ok (.getfield 12, 3) := by decide +kernel
theorem dX6_isAt_56 : decode cX6_isAt 56 = .ok (.aload_n 0, 1) := by decide +kernel
theorem dX6_isAt_57 : decode cX6_isAt 57 = .ok (.getfield 25, 3) := by decide +kernel
theorem dX6_isAt_60 : decode cX6_isAt 60 = .ok (.aload_n 0, 1) := by decide +kernel
theorem dX6_isAt_61 : decode cX6_isAt 61 = .ok (.getfield 29, 3) := by decide +kernel
theorem dX6_isAt_64 : decode cX6_isAt 64 = .ok (.invokevirtual 79, 3) := by decide +kernel
theorem dX6_isAt_67 : decode cX6_isAt 67 = .ok (.ifCond .eq 7, 3) := by decide +kernel
theorem dX6_isAt_70 : decode cX6_isAt 70 = .ok (.iconst 1, 1) := by decide +kernel
theorem dX6_isAt_71 : decode cX6_isAt 71 = .ok (.goto 4, 3) := by decide +kernel
theorem dX6_isAt_74 : decode cX6_isAt 74 = .ok (.iconst 0, 1) := by decide +kernel
theorem dX6_isAt_75 : decode cX6_isAt 75 = .ok (.ireturn, 1) := by decide +kernel
theorem dX6_later_0 : decode cX6_later 0 = .ok (.aload_n 0, 1) := by decide +kernel
theorem dX6_later_1 : decode cX6_later 1 = .ok (.aload_n 0, 1) := by decide +kernel
theorem dX6_later_2 : decode cX6_later 2 = .ok (.getfield 42, 3) := by decide +kernel
theorem dX6_later_5 : decode cX6_later 5 = .ok (.iload_n 1, 1) := by decide +kernel
theorem dX6_later_6 : decode cX6_later 6 = .ok (.invokevirtual 83, 3) := by decide +kernel
theorem dX6_later_9 : decode cX6_later 9 = .ok (.aload_n 0, 1) := by decide +kernel
theorem dX6_later_10 : decode cX6_later 10 = .ok (.getfield 12, 3) := by decide +kernel
theorem dX6_later_13 : decode cX6_later 13 = .ok (.areturn, 1) := by decide +kernel
theorem dX6_doneFromNow_0 : decode cX6_doneFromNow 0 = .ok (.aload_n 0, 1) := by decide +kernel
theorem dX6_doneFromNow_1 : decode cX6_doneFromNow 1 = .ok (.iconst 0, 1) := by decide +kernel
theorem dX6_doneFromNow_2 : decode cX6_doneFromNow 2 = .ok (.invokevirtual 56, 3) := by decide +kernel
theorem dX6_doneFromNow_5 : decode cX6_doneFromNow 5 = .ok (.aload_n 0, 1) := by decide +kernel
theorem dX6_doneFromNow_6 : decode cX6_doneFromNow 6 = .ok (.aload_n 0, 1) := by decide +kernel
theorem dX6_doneFromNow_7 : decode cX6_doneFromNow 7 = .ok (.getfield 42, 3) := by decide +kernel
theorem dX6_doneFromNow_10 : decode cX6_doneFromNow 10 = .ok (.iconst 0, 1) := by decide +kernel
theorem dX6_doneFromNow_11 : decode cX6_doneFromNow 11 = .ok (.iconst 0, 1) := by decide +kernel
theorem dX6_doneFromNow_12 : decode cX6_doneFromNow 12 = .ok (.invokevirtual 87, 3) := by decide +kernel
theorem dX6_doneFromNow_15 : decode cX6_doneFromNow 15 = .ok (.ireturn, 1) := by decide +kernel
theorem dX6_unlikeWith_0 : decode cX6_unlikeWith 0 = .ok (.aload_n 0, 1) := by decide +kernel
theorem dX6_unlikeWith_1 : decode cX6_unlikeWith 1 = .ok (.iload_n 1, 1) := by decide +kernel
theorem dX6_unlikeWith_2 : decode cX6_unlikeWith 2 = .ok (.invokevirtual 56, 3) := by decide +kernel
theorem dX6_unlikeWith_5 : decode cX6_unlikeWith 5 = .ok (.aload_n 0, 1) := by decide +kernel
theorem dX6_unlikeWith_6 : decode cX6_unlikeWith 6 = .ok (.aload_n 0, 1) := by decide +kernel
theorem dX6_unlikeWith_7 : decode cX6_unlikeWith 7 = .ok (.getfield 42, 3) := by decide +kernel
theorem dX6_unlikeWith_10 : decode cX6_unlikeWith 10 = .ok (.iconst 1, 1) := by decide +kernel
theorem dX6_unlikeWith_11 : decode cX6_unlikeWith 11 = .ok (.iconst 0, 1) := by decide +kernel
theorem dX6_unlikeWith_12 : decode cX6_unlikeWith 12 = .ok (.invokevirtual 87, 3) := by decide +kernel
theorem dX6_unlikeWith_15 : decode cX6_unlikeWith 15 = .ok (.ireturn, 1) := by decide +kernel
theorem dX6_shownFromNow_0 : decode cX6_shownFromNow 0 = .ok (.aload_n 0, 1) := by decide +kernel
theorem dX6_shownFromNow_1 : decode cX6_shownFromNow 1 = .ok (.aload_n 1, 1) := by decide +kernel
theorem dX6_shownFromNow_2 : decode cX6_shownFromNow 2 = .ok (.putfield 25, 3) := by decide +kernel
theorem dX6_shownFromNow_5 : decode cX6_shownFromNow 5 = .ok (.aload_n 0, 1) := by decide +kernel
theorem dX6_shownFromNow_6 : decode cX6_shownFromNow 6 = .ok (.iload_n 2, 1) := by decide +kernel
theorem dX6_shownFromNow_7 : decode cX6_shownFromNow 7 = .ok (.putfield 29, 3) := by decide +kernel
theorem dX6_shownFromNow_10 : decode cX6_shownFromNow 10 = .ok (.aload_n 0, 1) := by decide +kernel
theorem dX6_shownFromNow_11 : decode cX6_shownFromNow 11 = .ok (.iconst 0, 1) := by decide +kernel
theorem dX6_shownFromNow_12 : decode cX6_shownFromNow 12 = .ok (.invokevirtual 56, 3) := by decide +kernel
theorem dX6_shownFromNow_15 : decode cX6_shownFromNow 15 = .ok (.aload_n 0, 1) := by decide +kernel
theorem dX6_shownFromNow_16 : decode cX6_shownFromNow 16 = .ok (.aload_n 0, 1) := by decide +kernel
theorem dX6_shownFromNow_17 : decode cX6_shownFromNow 17 = .ok (.getfield 42, 3) := by decide +kernel
theorem dX6_shownFromNow_20 : decode cX6_shownFromNow 20 = .ok (.iconst 2, 1) := by decide +kernel
theorem dX6_shownFromNow_21 : decode cX6_shownFromNow 21 = .ok (.iconst 0, 1) := by decide +kernel
theorem dX6_shownFromNow_22 : decode cX6_shownFromNow 22 = .ok (.invokevirtual 87, 3) := by decide +kernel
theorem dX6_shownFromNow_25 : decode cX6_shownFromNow 25 = .ok (.ireturn, 1) := by decide +kernel
theorem dX6_findDarkest_0 : decode cX6_findDarkest 0 = .ok (.aload_n 0, 1) := by decide +kernel
theorem dX6_findDarkest_1 : decode cX6_findDarkest 1 = .ok (.iconst (-1), 1) := by decide +kernel
theorem dX6_findDarkest_2 : decode cX6_findDarkest 2 = .ok (.putfield 36, 3) := by decide +kernel
theorem dX6_findDarkest_5 : decode cX6_findDarkest 5 = .ok (.iconst 0, 1) := by decide +kernel
theorem dX6_findDarkest_6 : decode cX6_findDarkest 6 = .ok (.istore_n 1, 1) := by decide +kernel
theorem dX6_findDarkest_7 : decode cX6_findDarkest 7 = .ok (.iload_n 1, 1) := by decide +kernel
theorem dX6_findDarkest_8 : decode cX6_findDarkest 8 = .ok (.aload_n 0, 1) := by decide +kernel
theorem dX6_findDarkest_9 : decode cX6_findDarkest 9 = .ok (.getfield 39, 3) := by decide +kernel
theorem dX6_findDarkest_12 : decode cX6_findDarkest 12 = .ok (.getfield 49, 3) := by decide +kernel
theorem dX6_findDarkest_15 : decode cX6_findDarkest 15 = .ok (.if_icmp .ge 41, 3) := by decide +kernel
theorem dX6_findDarkest_18 : decode cX6_findDarkest 18 = .ok (.aload_n 0, 1) := by decide +kernel
theorem dX6_findDarkest_19 : decode cX6_findDarkest 19 = .ok (.iconst 0, 1) := by decide +kernel
theorem dX6_findDarkest_20 : decode cX6_findDarkest 20 = .ok (.invokevirtual 56, 3) := by decide +kernel
theorem dX6_findDarkest_23 : decode cX6_findDarkest 23 = .ok (.aload_n 0, 1) := by decide +kernel
theorem dX6_findDarkest_24 : decode cX6_findDarkest 24 = .ok (.getfield 12, 3) := by decide +kernel
theorem dX6_findDarkest_27 : decode cX6_findDarkest 27 = .ok (.iconst 1, 1) := by decide +kernel
theorem dX6_findDarkest_28 : decode cX6_findDarkest 28 = .ok (.iload_n 1, 1) := by decide +kernel
theorem dX6_findDarkest_29 : decode cX6_findDarkest 29 = .ok (.ishl, 1) := by decide +kernel
theorem dX6_findDarkest_30 : decode cX6_findDarkest 30 = .ok (.putfield 91, 3) := by decide +kernel
theorem dX6_findDarkest_33 : decode cX6_findDarkest 33 = .ok (.aload_n 0, 1) := by decide +kernel
theorem dX6_findDarkest_34 : decode cX6_findDarkest 34 = .ok (.iload_n 1, 1) := by decide +kernel
theorem dX6_findDarkest_35 : decode cX6_findDarkest 35 = .ok (.aload_n 0, 1) := by decide +kernel
theorem dX6_findDarkest_36 : decode cX6_findDarkest 36 = .ok (.aload_n 0, 1) := by decide +kernel
theorem dX6_findDarkest_37 : decode cX6_findDarkest 37 = .ok (.getfield 42, 3) := by decide +kernel
theorem dX6_findDarkest_40 : decode cX6_findDarkest 40 = .ok (.iconst 0, 1) := by decide +kernel
theorem dX6_findDarkest_41 : decode cX6_findDarkest 41 = .ok (.iconst 1, 1) := by decide +kernel
theorem dX6_findDarkest_42 : decode cX6_findDarkest 42 = .ok (.iload_n 1, 1) := by decide +kernel
theorem dX6_findDarkest_43 : decode cX6_findDarkest 43 = .ok (.ishl, 1) := by decide +kernel
theorem dX6_findDarkest_44 : decode cX6_findDarkest 44 = .ok (.invokevirtual 87, 3) := by decide +kernel
theorem dX6_findDarkest_47 : decode cX6_findDarkest 47 = .ok (.invokevirtual 94, 3) := by decide +kernel
theorem dX6_findDarkest_50 : decode cX6_findDarkest 50 = .ok (.iinc 1 1, 3) := by decide +kernel
theorem dX6_findDarkest_53 : decode cX6_findDarkest 53 = .ok (.goto (-46), 3) := by decide +kernel
theorem dX6_findDarkest_56 : decode cX6_findDarkest 56 = .ok (.return_, 1) := by decide +kernel
theorem dX6_findWorst_0 : decode cX6_findWorst 0 = .ok (.aload_n 0, 1) := by decide +kernel
theorem dX6_findWorst_1 : decode cX6_findWorst 1 = .ok (.iconst (-1), 1) := by decide +kernel
theorem dX6_findWorst_2 : decode cX6_findWorst 2 = .ok (.putfield 36, 3) := by decide +kernel
theorem dX6_findWorst_5 : decode cX6_findWorst 5 = .ok (.iconst 0, 1) := by decide +kernel
theorem dX6_findWorst_6 : decode cX6_findWorst 6 = .ok (.istore_n 1, 1) := by decide +kernel
theorem dX6_findWorst_7 : decode cX6_findWorst 7 = .ok (.iload_n 1, 1) := by decide +kernel
theorem dX6_findWorst_8 : decode cX6_findWorst 8 = .ok (.aload_n 0, 1) := by decide +kernel
theorem dX6_findWorst_9 : decode cX6_findWorst 9 = .ok (.getfield 39, 3) := by decide +kernel
theorem dX6_findWorst_12 : decode cX6_findWorst 12 = .ok (.getfield 49, 3) := by decide +kernel
theorem dX6_findWorst_15 : decode cX6_findWorst 15 = .ok (.if_icmp .ge 71, 3) := by decide +kernel
theorem dX6_findWorst_18 : decode cX6_findWorst 18 = .ok (.iconst 0, 1) := by decide +kernel
theorem dX6_findWorst_19 : decode cX6_findWorst 19 = .ok (.istore_n 2, 1) := by decide +kernel
theorem dX6_findWorst_20 : decode cX6_findWorst 20 = .ok (.iload_n 2, 1) := by decide +kernel
theorem dX6_findWorst_21 : decode cX6_findWorst 21 = .ok (.aload_n 0, 1) := by decide +kernel
theorem dX6_findWorst_22 : decode cX6_findWorst 22 = .ok (.getfield 39, 3) := by decide +kernel
theorem dX6_findWorst_25 : decode cX6_findWorst 25 = .ok (.getfield 49, 3) := by decide +kernel
theorem dX6_findWorst_28 : decode cX6_findWorst 28 = .ok (.if_icmp .ge 52, 3) := by decide +kernel
theorem dX6_findWorst_31 : decode cX6_findWorst 31 = .ok (.iload_n 1, 1) := by decide +kernel
theorem dX6_findWorst_32 : decode cX6_findWorst 32 = .ok (.iload_n 2, 1) := by decide +kernel
theorem dX6_findWorst_33 : decode cX6_findWorst 33 = .ok (.if_icmp .eq 41, 3) := by decide +kernel
theorem dX6_findWorst_36 : decode cX6_findWorst 36 = .ok (.aload_n 0, 1) := by decide +kernel
theorem dX6_findWorst_37 : decode cX6_findWorst 37 = .ok (.iconst 0, 1) := by decide +kernel
theorem dX6_findWorst_38 : decode cX6_findWorst 38 = .ok (.invokevirtual 56, 3) := by decide +kernel
theorem dX6_findWorst_41 : decode cX6_findWorst 41 = .ok (.aload_n 0, 1) := by decide +kernel
theorem dX6_findWorst_42 : decode cX6_findWorst 42 = .ok (.getfield 12, 3) := by decide +kernel
theorem dX6_findWorst_45 : decode cX6_findWorst 45 = .ok (.getfield 98, 3) := by decide +kernel
theorem dX6_findWorst_48 : decode cX6_findWorst 48 = .ok (.iload_n 1, 1) := by decide +kernel
theorem dX6_findWorst_49 : decode cX6_findWorst 49 = .ok (.aaload, 1) := by decide +kernel
theorem dX6_findWorst_50 : decode cX6_findWorst 50 = .ok (.iload_n 2, 1) := by decide +kernel
theorem dX6_findWorst_51 : decode cX6_findWorst 51 = .ok (.bipush 9, 2) := by decide +kernel
theorem dX6_findWorst_53 : decode cX6_findWorst 53 = .ok (.iastore, 1) := by decide +kernel
theorem dX6_findWorst_54 : decode cX6_findWorst 54 = .ok (.aload_n 0, 1) := by decide +kernel
theorem dX6_findWorst_55 : decode cX6_findWorst 55 = .ok (.bipush 10, 2) := by decide +kernel
theorem dX6_findWorst_57 : decode cX6_findWorst 57 = .ok (.iload_n 1, 1) := by decide +kernel
theorem dX6_findWorst_58 : decode cX6_findWorst 58 = .ok (.imul, 1) := by decide +kernel
theorem dX6_findWorst_59 : decode cX6_findWorst 59 = .ok (.iload_n 2, 1) := by decide +kernel
theorem dX6_findWorst_60 : decode cX6_findWorst 60 = .ok (.iadd, 1) := by decide +kernel
theorem dX6_findWorst_61 : decode cX6_findWorst 61 = .ok (.aload_n 0, 1) := by decide +kernel
theorem dX6_findWorst_62 : decode cX6_findWorst 62 = .ok (.aload_n 0, 1) := by decide +kernel
theorem dX6_findWorst_63 : decode cX6_findWorst 63 = .ok (.getfield 42, 3) := by decide +kernel
theorem dX6_findWorst_66 : decode cX6_findWorst 66 = .ok (.iconst 0, 1) := by decide +kernel
theorem dX6_findWorst_67 : decode cX6_findWorst 67 = .ok (.iconst 0, 1) := by decide +kernel
theorem dX6_findWorst_68 : decode cX6_findWorst 68 = .ok (.invokevirtual 87, 3) := by decide +kernel
theorem dX6_findWorst_71 : decode cX6_findWorst 71 = .ok (.invokevirtual 94, 3) := by decide +kernel
theorem dX6_findWorst_74 : decode cX6_findWorst 74 = .ok (.iinc 2 1, 3) := by decide +kernel
theorem dX6_findWorst_77 : decode cX6_findWorst 77 = .ok (.goto (-57), 3) := by decide +kernel
theorem dX6_findWorst_80 : decode cX6_findWorst 80 = .ok (.iinc 1 1, 3) := by decide +kernel
theorem dX6_findWorst_83 : decode cX6_findWorst 83 = .ok (.goto (-76), 3) := by decide +kernel
theorem dX6_findWorst_86 : decode cX6_findWorst 86 = .ok (.return_, 1) := by decide +kernel
theorem dX6_keepIfLater_0 : decode cX6_keepIfLater 0 = .ok (.iload_n 2, 1) := by decide +kernel
theorem dX6_keepIfLater_1 : decode cX6_keepIfLater 1 = .ok (.aload_n 0, 1) := by decide +kernel
theorem dX6_keepIfLater_2 : decode cX6_keepIfLater 2 = .ok (.getfield 36, 3) := by decide +kernel
theorem dX6_keepIfLater_5 : decode cX6_keepIfLater 5 = .ok (.if_icmp .le 13, 3) := by decide +kernel
theorem dX6_keepIfLater_8 : decode cX6_keepIfLater 8 = .ok (.aload_n 0, 1) := by decide +kernel
theorem dX6_keepIfLater_9 : decode cX6_keepIfLater 9 = .ok (.iload_n 1, 1) := by decide +kernel
theorem dX6_keepIfLater_10 : decode cX6_keepIfLater 10 = .ok (.putfield 33, 3) := by decide +kernel
theorem dX6_keepIfLater_13 : decode cX6_keepIfLater 13 = .ok (.aload_n 0, 1) := by decide +kernel
theorem dX6_keepIfLater_14 : decode cX6_keepIfLater 14 = .ok (.iload_n 2, 1) := by decide +kernel
theorem dX6_keepIfLater_15 : decode cX6_keepIfLater 15 = .ok (.putfield 36, 3) := by decide +kernel
theorem dX6_keepIfLater_18 : decode cX6_keepIfLater 18 = .ok (.return_, 1) := by decide +kernel
theorem dX6_mostBorne_0 : decode cX6_mostBorne 0 = .ok (.aload_n 0, 1) := by decide +kernel
theorem dX6_mostBorne_1 : decode cX6_mostBorne 1 = .ok (.aload_n 0, 1) := by decide +kernel
theorem dX6_mostBorne_2 : decode cX6_mostBorne 2 = .ok (.getfield 42, 3) := by decide +kernel
theorem dX6_mostBorne_5 : decode cX6_mostBorne 5 = .ok (.iconst 2, 1) := by decide +kernel
theorem dX6_mostBorne_6 : decode cX6_mostBorne 6 = .ok (.invokevirtual 102, 3) := by decide +kernel
theorem dX6_mostBorne_9 : decode cX6_mostBorne 9 = .ok (.ireturn, 1) := by decide +kernel
theorem dX6_borne_0 : decode cX6_borne 0 = .ok (.iconst 0, 1) := by decide +kernel
theorem dX6_borne_1 : decode cX6_borne 1 = .ok (.istore_n 3, 1) := by decide +kernel
theorem dX6_borne_2 : decode cX6_borne 2 = .ok (.iload_n 3, 1) := by decide +kernel
theorem dX6_borne_3 : decode cX6_borne 3 = .ok (.iload_n 2, 1) := by decide +kernel
theorem dX6_borne_4 : decode cX6_borne 4 = .ok (.if_icmp .gt 63, 3) := by decide +kernel
theorem dX6_borne_7 : decode cX6_borne 7 = .ok (.iconst 0, 1) := by decide +kernel
theorem dX6_borne_8 : decode cX6_borne 8 = .ok (.istore 4, 2) := by decide +kernel
theorem dX6_borne_10 : decode cX6_borne 10 = .ok (.iload 4, 2) := by decide +kernel
theorem dX6_borne_12 : decode cX6_borne 12 = .ok (.iconst 1, 1) := by decide +kernel
theorem dX6_borne_13 : decode cX6_borne 13 = .ok (.aload_n 0, 1) := by decide +kernel
theorem dX6_borne_14 : decode cX6_borne 14 = .ok (.getfield 39, 3) := by decide +kernel
theorem dX6_borne_17 : decode cX6_borne 17 = .ok (.getfield 49, 3) := by decide +kernel
theorem dX6_borne_20 : decode cX6_borne 20 = .ok (.ishl, 1) := by decide +kernel
theorem dX6_borne_21 : decode cX6_borne 21 = .ok (.if_icmp .ge 40, 3) := by decide +kernel
theorem dX6_borne_24 : decode cX6_borne 24 = .ok (.iload 4, 2) := by decide +kernel
theorem dX6_borne_26 : decode cX6_borne 26 = .ok (.invokestatic 106, 3) := by decide +kernel
theorem dX6_borne_29 : decode cX6_borne 29 = .ok (.iload_n 3, 1) := by decide +kernel
theorem dX6_borne_30 : decode cX6_borne 30 = .ok (.if_icmp .ne 25, 3) := by decide +kernel
theorem dX6_borne_33 : decode cX6_borne 33 = .ok (.aload_n 0, 1) := by decide +kernel
theorem dX6_borne_34 : decode cX6_borne 34 = .ok (.iload 4, 2) := by decide +kernel
theorem dX6_borne_36 : decode cX6_borne 36 = .ok (.invokevirtual 56, 3) := by decide +kernel
theorem dX6_borne_39 : decode cX6_borne 39 = .ok (.aload_n 0, 1) := by decide +kernel
theorem dX6_borne_40 : decode cX6_borne 40 = .ok (.aload_n 1, 1) := by decide +kernel
theorem dX6_borne_41 : decode cX6_borne 41 = .ok (.iconst 1, 1) := by decide +kernel
theorem dX6_borne_42 : decode cX6_borne 42 = .ok (.iconst 0, 1) := by decide +kernel
theorem dX6_borne_43 : decode cX6_borne 43 = .ok (.invokevirtual 87, 3) := by decide +kernel
theorem dX6_borne_46 : decode cX6_borne 46 = .ok (.bipush 61, 2) := by decide +kernel
theorem dX6_borne_48 : decode cX6_borne 48 = .ok (.if_icmp .eq 7, 3) := by decide +kernel
theorem dX6_borne_51 : decode cX6_borne 51 = .ok (.iload_n 3, 1) := by decide +kernel
theorem dX6_borne_52 : decode cX6_borne 52 = .ok (.iconst 1, 1) := by decide +kernel
theorem dX6_borne_53 : decode cX6_borne 53 = .ok (.isub, 1) := by decide +kernel
theorem dX6_borne_54 : decode cX6_borne 54 = .ok (.ireturn, 1) := by decide +kernel
theorem dX6_borne_55 : decode cX6_borne 55 = .ok (.iinc 4 1, 3) := by decide +kernel
theorem dX6_borne_58 : decode cX6_borne 58 = .ok (.goto (-48), 3) := by decide +kernel
theorem dX6_borne_61 : decode cX6_borne 61 = .ok (.iinc 3 1, 3) := by decide +kernel
theorem dX6_borne_64 : decode cX6_borne 64 = .ok (.goto (-62), 3) := by decide +kernel
theorem dX6_borne_67 : decode cX6_borne 67 = .ok (.iload_n 2, 1) := by decide +kernel
theorem dX6_borne_68 : decode cX6_borne 68 = .ok (.ireturn, 1) := by decide +kernel
theorem dX6_leastNumber_0 : decode cX6_leastNumber 0 = .ok (.iconst 0, 1) := by decide +kernel
theorem dX6_leastNumber_1 : decode cX6_leastNumber 1 = .ok (.istore_n 3, 1) := by decide +kernel
theorem dX6_leastNumber_2 : decode cX6_leastNumber 2 = .ok (.iload_n 3, 1) := by decide +kernel
theorem dX6_leastNumber_3 : decode cX6_leastNumber 3 = .ok (.bipush 9, 2) := by decide +kernel
theorem dX6_leastNumber_5 : decode cX6_leastNumber 5 = .ok (.if_icmp .gt 55, 3) := by decide +kernel
theorem dX6_leastNumber_8 : decode cX6_leastNumber 8 = .ok (.aload_n 0, 1) := by decide +kernel
theorem dX6_leastNumber_9 : decode cX6_leastNumber 9 = .ok (.getfield 21, 3) := by decide +kernel
theorem dX6_leastNumber_12 : decode cX6_leastNumber 12 = .ok (.aload_n 0, 1) := by decide +kernel
theorem dX6_leastNumber_13 : decode cX6_leastNumber 13 = .ok (.getfield 42, 3) := by decide +kernel
theorem dX6_leastNumber_16 : decode cX6_leastNumber 16 = .ok (.iload_n 3, 1) := by decide +kernel
theorem dX6_leastNumber_17 : decode cX6_leastNumber 17 = .ok (.invokevirtual 112, 3) := by decide +kernel
theorem dX6_leastNumber_20 : decode cX6_leastNumber 20 = .ok (.aload_n 0, 1) := by decide +kernel
theorem dX6_leastNumber_21 : decode cX6_leastNumber 21 = .ok (.iconst 0, 1) := by decide +kernel
theorem dX6_leastNumber_22 : decode cX6_leastNumber 22 = .ok (.invokevirtual 56, 3) := by decide +kernel
theorem dX6_leastNumber_25 : decode cX6_leastNumber 25 = .ok (.aload_n 0, 1) := by decide +kernel
theorem dX6_leastNumber_26 : decode cX6_leastNumber 26 = .ok (.aload_n 0, 1) := by decide +kernel
theorem dX6_leastNumber_27 : decode cX6_leastNumber 27 = .ok (.getfield 21, 3) := by decide +kernel
theorem dX6_leastNumber_30 : decode cX6_leastNumber 30 = .ok (.iconst 0, 1) := by decide +kernel
theorem dX6_leastNumber_31 : decode cX6_leastNumber 31 = .ok (.iconst 0, 1) := by decide +kernel
theorem dX6_leastNumber_32 : decode cX6_leastNumber 32 = .ok (.invokevirtual 87, 3) := by decide +kernel
theorem dX6_leastNumber_35 : decode cX6_leastNumber 35 = .ok (.iload_n 2, 1) := by decide +kernel
theorem dX6_leastNumber_36 : decode cX6_leastNumber 36 = .ok (.if_icmp .gt 18, 3) := by decide +kernel
theorem dX6_leastNumber_39 : decode cX6_leastNumber 39 = .ok (.aload_n 0, 1) := by decide +kernel
theorem dX6_leastNumber_40 : decode cX6_leastNumber 40 = .ok (.aload_n 0, 1) := by decide +kernel
theorem dX6_leastNumber_41 : decode cX6_leastNumber 41 = .ok (.getfield 21, 3) := by decide +kernel
theorem dX6_leastNumber_44 : decode cX6_leastNumber 44 = .ok (.iload_n 1, 1) := by decide +kernel
theorem dX6_leastNumber_45 : decode cX6_leastNumber 45 = .ok (.invokevirtual 102, 3) := by decide +kernel
theorem dX6_leastNumber_48 : decode cX6_leastNumber 48 = .ok (.iload_n 1, 1) := by decide +kernel
theorem dX6_leastNumber_49 : decode cX6_leastNumber 49 = .ok (.if_icmp .ne 5, 3) := by decide +kernel
theorem dX6_leastNumber_52 : decode cX6_leastNumber 52 = .ok (.iload_n 3, 1) := by decide +kernel
theorem dX6_leastNumber_53 : decode cX6_leastNumber 53 = .ok (.ireturn, 1) := by decide +kernel
theorem dX6_leastNumber_54 : decode cX6_leastNumber 54 = .ok (.iinc 3 1, 3) := by decide +kernel
theorem dX6_leastNumber_57 : decode cX6_leastNumber 57 = .ok (.goto (-55), 3) := by decide +kernel
theorem dX6_leastNumber_60 : decode cX6_leastNumber 60 = .ok (.bipush (-4), 2) := by decide +kernel
theorem dX6_leastNumber_62 : decode cX6_leastNumber 62 = .ok (.ireturn, 1) := by decide +kernel
theorem dX6_spareRules_0 : decode cX6_spareRules 0 = .ok (.aload_n 0, 1) := by decide +kernel
theorem dX6_spareRules_1 : decode cX6_spareRules 1 = .ok (.aload_n 0, 1) := by decide +kernel
theorem dX6_spareRules_2 : decode cX6_spareRules 2 = .ok (.getfield 42, 3) := by decide +kernel
theorem dX6_spareRules_5 : decode cX6_spareRules 5 = .ok (.bipush 60, 2) := by decide +kernel
theorem dX6_spareRules_7 : decode cX6_spareRules 7 = .ok (.invokevirtual 83, 3) := by decide +kernel
theorem dX6_spareRules_10 : decode cX6_spareRules 10 = .ok (.aload_n 0, 1) := by decide +kernel
theorem dX6_spareRules_11 : decode cX6_spareRules 11 = .ok (.getfield 12, 3) := by decide +kernel
theorem dX6_spareRules_14 : decode cX6_spareRules 14 = .ok (.invokevirtual 115, 3) := by decide +kernel
theorem dX6_spareRules_17 : decode cX6_spareRules 17 = .ok (.istore_n 1, 1) := by decide +kernel
theorem dX6_spareRules_18 : decode cX6_spareRules 18 = .ok (.iconst 0, 1) := by decide +kernel
theorem dX6_spareRules_19 : decode cX6_spareRules 19 = .ok (.istore_n 2, 1) := by decide +kernel
theorem dX6_spareRules_20 : decode cX6_spareRules 20 = .ok (.iconst 0, 1) := by decide +kernel
theorem dX6_spareRules_21 : decode cX6_spareRules 21 = .ok (.istore_n 3, 1) := by decide +kernel
theorem dX6_spareRules_22 : decode cX6_spareRules 22 = .ok (.iload_n 3, 1) := by decide +kernel
theorem dX6_spareRules_23 : decode cX6_spareRules 23 = .ok (.aload_n 0, 1) := by decide +kernel
theorem dX6_spareRules_24 : decode cX6_spareRules 24 = .ok (.getfield 42, 3) := by decide +kernel
theorem dX6_spareRules_27 : decode cX6_spareRules 27 = .ok (.getfield 119, 3) := by decide +kernel
theorem dX6_spareRules_30 : decode cX6_spareRules 30 = .ok (.if_icmp .ge 48, 3) := by decide +kernel
theorem dX6_spareRules_33 : decode cX6_spareRules 33 = .ok (.aload_n 0, 1) := by decide +kernel
theorem dX6_spareRules_34 : decode cX6_spareRules 34 = .ok (.getfield 21, 3) := by decide +kernel
theorem dX6_spareRules_37 : decode cX6_spareRules 37 = .ok (.aload_n 0, 1) := by decide +kernel
theorem dX6_spareRules_38 : decode cX6_spareRules 38 = .ok (.getfield 42, 3) := by decide +kernel
theorem dX6_spareRules_41 : decode cX6_spareRules 41 = .ok (.iload_n 3, 1) := by decide +kernel
theorem dX6_spareRules_42 : decode cX6_spareRules 42 = .ok (.invokevirtual 122, 3) := by decide +kernel
theorem dX6_spareRules_45 : decode cX6_spareRules 45 = .ok (.aload_n 0, 1) := by decide +kernel
theorem dX6_spareRules_46 : decode cX6_spareRules 46 = .ok (.aload_n 0, 1) := by decide +kernel
theorem dX6_spareRules_47 : decode cX6_spareRules 47 = .ok (.getfield 21, 3) := by decide +kernel
theorem dX6_spareRules_50 : decode cX6_spareRules 50 = .ok (.bipush 60, 2) := by decide +kernel
theorem dX6_spareRules_52 : decode cX6_spareRules 52 = .ok (.invokevirtual 83, 3) := by decide +kernel
theorem dX6_spareRules_55 : decode cX6_spareRules 55 = .ok (.aload_n 0, 1) := by decide +kernel
theorem dX6_spareRules_56 : decode cX6_spareRules 56 = .ok (.getfield 12, 3) := by decide +kernel
theorem dX6_spareRules_59 : decode cX6_spareRules 59 = .ok (.invokevirtual 115, 3) := by decide +kernel
theorem dX6_spareRules_62 : decode cX6_spareRules 62 = .ok (.iload_n 1, 1) := by decide +kernel
theorem dX6_spareRules_63 : decode cX6_spareRules 63 = .ok (.if_icmp .ne 9, 3) := by decide +kernel
theorem dX6_spareRules_66 : decode cX6_spareRules 66 = .ok (.iload_n 2, 1) := by decide +kernel
theorem dX6_spareRules_67 : decode cX6_spareRules 67 = .ok (.iconst 1, 1) := by decide +kernel
theorem dX6_spareRules_68 : decode cX6_spareRules 68 = .ok (.iload_n 3, 1) := by decide +kernel
theorem dX6_spareRules_69 : decode cX6_spareRules 69 = .ok (.ishl, 1) := by decide +kernel
theorem dX6_spareRules_70 : decode cX6_spareRules 70 = .ok (.ior, 1) := by decide +kernel
theorem dX6_spareRules_71 : decode cX6_spareRules 71 = .ok (.istore_n 2, 1) := by decide +kernel
theorem dX6_spareRules_72 : decode cX6_spareRules 72 = .ok (.iinc 3 1, 3) := by decide +kernel
theorem dX6_spareRules_75 : decode cX6_spareRules 75 = .ok (.goto (-53), 3) := by decide +kernel
theorem dX6_spareRules_78 : decode cX6_spareRules 78 = .ok (.iload_n 2, 1) := by decide +kernel
theorem dX6_spareRules_79 : decode cX6_spareRules 79 = .ok (.ireturn, 1) := by decide +kernel
theorem dX7_init_0 : decode cX7_init 0 = .ok (.aload_n 0, 1) := by decide +kernel
theorem dX7_init_1 : decode cX7_init 1 = .ok (.invokespecial 1, 3) := by decide +kernel
theorem dX7_init_4 : decode cX7_init 4 = .ok (.aload_n 0, 1) := by decide +kernel
theorem dX7_init_5 : decode cX7_init 5 = .ok (.new 7, 3) := by decide +kernel
theorem dX7_init_8 : decode cX7_init 8 = .ok (.dup, 1) := by decide +kernel
theorem dX7_init_9 : decode cX7_init 9 = .ok (.invokespecial 9, 3) := by decide +kernel
theorem dX7_init_12 : decode cX7_init 12 = .ok (.putfield 10, 3) := by decide +kernel
theorem dX7_init_15 : decode cX7_init 15 = .ok (.aload_n 0, 1) := by decide +kernel
theorem dX7_init_16 : decode cX7_init 16 = .ok (.new 7, 3) := by decide +kernel
theorem dX7_init_19 : decode cX7_init 19 = .ok (.dup, 1) := by decide +kernel
theorem dX7_init_20 : decode cX7_init 20 = .ok (.invokespecial 9, 3) := by decide +kernel
theorem dX7_init_23 : decode cX7_init 23 = .ok (.putfield 16, 3) := by decide +kernel
theorem dX7_init_26 : decode cX7_init 26 = .ok (.aload_n 0, 1) := by decide +kernel
theorem dX7_init_27 : decode cX7_init 27 = .ok (.iconst 0, 1) := by decide +kernel
theorem dX7_init_28 : decode cX7_init 28 = .ok (.putfield 19, 3) := by decide +kernel
theorem dX7_init_31 : decode cX7_init 31 = .ok (.aload_n 0, 1) := by decide +kernel
theorem dX7_init_32 : decode cX7_init 32 = .ok (.new 23, 3) := by decide +kernel
theorem dX7_init_35 : decode cX7_init 35 = .ok (.dup, 1) := by decide +kernel
theorem dX7_init_36 : decode cX7_init 36 = .ok (.invokespecial 25, 3) := by decide +kernel
theorem dX7_init_39 : decode cX7_init 39 = .ok (.putfield 26, 3) := by decide +kernel
theorem dX7_init_42 : decode cX7_init 42 = .ok (.aload_n 0, 1) := by decide +kernel
theorem dX7_init_43 : decode cX7_init 43 = .ok (.iconst 4, 1) := by decide +kernel
theorem dX7_init_44 : decode cX7_init 44 = .ok (.anewarray 30, 3) := by decide +kernel
theorem dX7_init_47 : decode cX7_init 47 = .ok (.putfield 32, 3) := by decide +kernel
theorem dX7_init_50 : decode cX7_init 50 = .ok (.aload_n 0, 1) := by decide +kernel
theorem dX7_init_51 : decode cX7_init 51 = .ok (.new 36, 3) := by decide +kernel
theorem dX7_init_54 : decode cX7_init 54 = .ok (.dup, 1) := by decide +kernel
theorem dX7_init_55 : decode cX7_init 55 = .ok (.aload_n 0, 1) := by decide +kernel
theorem dX7_init_56 : decode cX7_init 56 = .ok (.getfield 10, 3) := by decide +kernel
theorem dX7_init_59 : decode cX7_init 59 = .ok (.getfield 38, 3) := by decide +kernel
theorem dX7_init_62 : decode cX7_init 62 = .ok (.aload_n 0, 1) := by decide +kernel
theorem dX7_init_63 : decode cX7_init 63 = .ok (.getfield 10, 3) := by decide +kernel
theorem dX7_init_66 : decode cX7_init 66 = .ok (.getfield 42, 3) := by decide +kernel
theorem dX7_init_69 : decode cX7_init 69 = .ok (.invokespecial 46, 3) := by decide +kernel
theorem dX7_init_72 : decode cX7_init 72 = .ok (.putfield 49, 3) := by decide +kernel
theorem dX7_init_75 : decode cX7_init 75 = .ok (.iconst 0, 1) := by decide +kernel
theorem dX7_init_76 : decode cX7_init 76 = .ok (.istore_n 1, 1) := by decide +kernel
theorem dX7_init_77 : decode cX7_init 77 = .ok (.iload_n 1, 1) := by decide +kernel
theorem dX7_init_78 : decode cX7_init 78 = .ok (.iconst 4, 1) := by decide +kernel
theorem dX7_init_79 : decode cX7_init 79 = .ok (.if_icmp .ge 22, 3) := by decide +kernel
theorem dX7_init_82 : decode cX7_init 82 = .ok (.aload_n 0, 1) := by decide +kernel
theorem dX7_init_83 : decode cX7_init 83 = .ok (.getfield 32, 3) := by decide +kernel
theorem dX7_init_86 : decode cX7_init 86 = .ok (.iload_n 1, 1) := by decide +kernel
theorem dX7_init_87 : decode cX7_init 87 = .ok (.new 30, 3) := by decide +kernel
theorem dX7_init_90 : decode cX7_init 90 = .ok (.dup, 1) := by decide +kernel
theorem dX7_init_91 : decode cX7_init 91 = .ok (.invokespecial 53, 3) := by decide +kernel
theorem dX7_init_94 : decode cX7_init 94 = .ok (.aastore, 1) := by decide +kernel
theorem dX7_init_95 : decode cX7_init 95 = .ok (.iinc 1 1, 3) := by decide +kernel
theorem dX7_init_98 : decode cX7_init 98 = .ok (.goto (-21), 3) := by decide +kernel
theorem dX7_init_101 : decode cX7_init 101 = .ok (.return_, 1) := by decide +kernel
theorem dX7_rock_0 : decode cX7_rock 0 = .ok (.iload_n 1, 1) := by decide +kernel
theorem dX7_rock_1 : decode cX7_rock 1 = .ok (.iconst 0, 1) := by decide +kernel
theorem dX7_rock_2 : decode cX7_rock 2 = .ok (.iconst 5, 1) := by decide +kernel
theorem dX7_rock_3 : decode cX7_rock 3 = .ok (.invokestatic 54, 3) := by decide +kernel
theorem dX7_rock_6 : decode cX7_rock 6 = .ok (.ifCond .eq 12, 3) := by decide +kernel
theorem dX7_rock_9 : decode cX7_rock 9 = .ok (.iload_n 2, 1) := by decide +kernel
theorem dX7_rock_10 : decode cX7_rock 10 = .ok (.iconst 0, 1) := by decide +kernel
theorem dX7_rock_11 : decode cX7_rock 11 = .ok (.iconst 1, 1) := by decide +kernel
theorem dX7_rock_12 : decode cX7_rock 12 = .ok (.invokestatic 54, 3) := by decide +kernel
theorem dX7_rock_15 : decode cX7_rock 15 = .ok (.ifCond .ne 5, 3) := by decide +kernel
theorem dX7_rock_18 : decode cX7_rock 18 = .ok (.iconst (-1), 1) := by decide +kernel
theorem dX7_rock_19 : decode cX7_rock 19 = .ok (.ireturn, 1) := by decide +kernel
theorem dX7_rock_20 : decode cX7_rock 20 = .ok (.aload_n 0, 1) := by decide +kernel
theorem dX7_rock_21 : decode cX7_rock 21 = .ok (.getfield 10, 3) := by decide +kernel
theorem dX7_rock_24 : decode cX7_rock 24 = .ok (.getfield 38, 3) := by decide +kernel
theorem dX7_rock_27 : decode cX7_rock 27 = .ok (.getfield 58, 3) := by decide +kernel
theorem dX7_rock_30 : decode cX7_rock 30 = .ok (.bipush 9, 2) := by decide +kernel
theorem dX7_rock_32 : decode cX7_rock 32 = .ok (.if_icmp .lt 6, 3) := by decide +kernel
theorem dX7_rock_35 : decode cX7_rock 35 = .ok (.bipush (-3), 2) := by decide +kernel
theorem dX7_rock_37 : decode cX7_rock 37 = .ok (.ireturn, 1) := by decide +kernel
theorem dX7_rock_38 : decode cX7_rock 38 = .ok (.aload_n 0, 1) := by decide +kernel
theorem dX7_rock_39 : decode cX7_rock 39 = .ok (.getfield 10, 3) := by decide +kernel
theorem dX7_rock_42 : decode cX7_rock 42 = .ok (.getfield 38, 3) := by decide +kernel
theorem dX7_rock_45 : decode cX7_rock 45 = .ok (.iload_n 1, 1) := by decide +kernel
theorem dX7_rock_46 : decode cX7_rock 46 = .ok (.iload_n 2, 1) := by decide +kernel
theorem dX7_rock_47 : decode cX7_rock 47 = .ok (.invokevirtual 64, 3) := by decide +kernel
theorem dX7_rock_50 : decode cX7_rock 50 = .ok (.ireturn, 1) := by decide +kernel
theorem dX7_out_0 : decode cX7_out 0 = .ok (.aload_n 0, 1) := by decide +kernel
theorem dX7_out_1 : decode cX7_out 1 = .ok (.getfield 10, 3) := by decide +kernel
theorem dX7_out_4 : decode cX7_out 4 = .ok (.getfield 38, 3) := by decide +kernel
theorem dX7_out_7 : decode cX7_out 7 = .ok (.getfield 58, 3) := by decide +kernel
theorem dX7_out_10 : decode cX7_out 10 = .ok (.ifCond .ne 6, 3) := by decide +kernel
theorem dX7_out_13 : decode cX7_out 13 = .ok (.bipush (-4), 2) := by decide +kernel
theorem dX7_out_15 : decode cX7_out 15 = .ok (.ireturn, 1) := by decide +kernel
theorem dX7_out_16 : decode cX7_out 16 = .ok (.aload_n 0, 1) := by decide +kernel
theorem dX7_out_17 : decode cX7_out 17 = .ok (.getfield 10, 3) := by decide +kernel
theorem dX7_out_20 : decode cX7_out 20 = .ok (.getfield 38, 3) := by decide +kernel
theorem dX7_out_23 : decode cX7_out 23 = .ok (.invokevirtual 68, 3) := by decide +kernel
theorem dX7_out_26 : decode cX7_out 26 = .ok (.ireturn, 1) := by decide +kernel
theorem dX7_turn_0 : decode cX7_turn 0 = .ok (.aload_n 0, 1) := by decide +kernel
theorem dX7_turn_1 : decode cX7_turn 1 = .ok (.iload_n 1, 1) := by decide +kernel
theorem dX7_turn_2 : decode cX7_turn 2 = .ok (.invokevirtual 72, 3) := by decide +kernel
theorem dX7_turn_5 : decode cX7_turn 5 = .ok (.ifCond .eq 12, 3) := by decide +kernel
theorem dX7_turn_8 : decode cX7_turn 8 = .ok (.iload_n 2, 1) := by decide +kernel
theorem dX7_turn_9 : decode cX7_turn 9 = .ok (.iconst 0, 1) := by decide +kernel
theorem dX7_turn_10 : decode cX7_turn 10 = .ok (.iconst 5, 1) := by decide +kernel
theorem dX7_turn_11 : decode cX7_turn 11 = .ok (.invokestatic 54, 3) := by decide +kernel
theorem dX7_turn_14 : decode cX7_turn 14 = .ok (.ifCond .ne 5, 3) := by decide +kernel
theorem dX7_turn_17 : decode cX7_turn 17 = .ok (.iconst (-1), 1) := by decide +kernel
theorem dX7_turn_18 : decode cX7_turn 18 = .ok (.ireturn, 1) := by decide +kernel
theorem dX7_turn_19 : decode cX7_turn 19 = .ok (.aload_n 0, 1) := by decide +kernel
theorem dX7_turn_20 : decode cX7_turn 20 = .ok (.getfield 10, 3) := by decide +kernel
theorem dX7_turn_23 : decode cX7_turn 23 = .ok (.getfield 38, 3) := by decide +kernel
theorem dX7_turn_26 : decode cX7_turn 26 = .ok (.getfield 76, 3) := by decide +kernel
theorem dX7_turn_29 : decode cX7_turn 29 = .ok (.iload_n 1, 1) := by decide +kernel
theorem dX7_turn_30 : decode cX7_turn 30 = .ok (.iaload, 1) := by decide +kernel
theorem dX7_turn_31 : decode cX7_turn 31 = .ok (.istore_n 3, 1) := by decide +kernel
theorem dX7_turn_32 : decode cX7_turn 32 = .ok (.aload_n 0, 1) := by decide +kernel
theorem dX7_turn_33 : decode cX7_turn 33 = .ok (.getfield 10, 3) := by decide +kernel
theorem dX7_turn_36 : decode cX7_turn 36 = .ok (.getfield 38, 3) := by decide +kernel
theorem dX7_turn_39 : decode cX7_turn 39 = .ok (.getfield 76, 3) := by decide +kernel
theorem dX7_turn_42 : decode cX7_turn 42 = .ok (.iload_n 1, 1) := by decide +kernel
theorem dX7_turn_43 : decode cX7_turn 43 = .ok (.iload_n 2, 1) := by decide +kernel
theorem dX7_turn_44 : decode cX7_turn 44 = .ok (.iastore, 1) := by decide +kernel
theorem dX7_turn_45 : decode cX7_turn 45 = .ok (.iload_n 3, 1) := by decide +kernel
theorem dX7_turn_46 : decode cX7_turn 46 = .ok (.ireturn, 1) := by decide +kernel
theorem dX7_dark_0 : decode cX7_dark 0 = .ok (.aload_n 0, 1) := by decide +kernel
theorem dX7_dark_1 : decode cX7_dark 1 = .ok (.iload_n 1, 1) := by decide +kernel
theorem dX7_dark_2 : decode cX7_dark 2 = .ok (.invokevirtual 72, 3) := by decide +kernel
theorem dX7_dark_5 : decode cX7_dark 5 = .ok (.ifCond .eq 23, 3) := by decide +kernel
theorem dX7_dark_8 : decode cX7_dark 8 = .ok (.iload_n 2, 1) := by decide +kernel
theorem dX7_dark_9 : decode cX7_dark 9 = .ok (.iconst 0, 1) := by decide +kernel
theorem dX7_dark_10 : decode cX7_dark 10 = .ok (.bipush 99, 2) := by decide +kernel
theorem dX7_dark_12 : decode cX7_dark 12 = .ok (.invokestatic 54, 3) := by decide +kernel
theorem dX7_dark_15 : decode cX7_dark 15 = .ok (.ifCond .eq 13, 3) := by decide +kernel
theorem dX7_dark_18 : decode cX7_dark 18 = .ok (.iload_n 3, 1) := by decide +kernel
theorem dX7_dark_19 : decode cX7_dark 19 = .ok (.iconst 0, 1) := by decide +kernel
theorem dX7_dark_20 : decode cX7_dark 20 = .ok (.bipush 100, 2) := by decide +kernel
theorem dX7_dark_22 : decode cX7_dark 22 = .ok (.invokestatic 54, 3) := by decide +kernel
theorem dX7_dark_25 : decode cX7_dark 25 = .ok (.ifCond .ne 5, 3) := by decide +kernel
theorem dX7_dark_28 : decode cX7_dark 28 = .ok (.iconst (-1), 1) := by decide +kernel
theorem dX7_dark_29 : decode cX7_dark 29 = .ok (.ireturn, 1) := by decide +kernel
theorem dX7_dark_30 : decode cX7_dark 30 = .ok (.aload_n 0, 1) := by decide +kernel
theorem dX7_dark_31 : decode cX7_dark 31 = .ok (.getfield 10, 3) := by decide +kernel
theorem dX7_dark_34 : decode cX7_dark 34 = .ok (.getfield 38, 3) := by decide +kernel
theorem dX7_dark_37 : decode cX7_dark 37 = .ok (.getfield 80, 3) := by decide +kernel
theorem dX7_dark_40 : decode cX7_dark 40 = .ok (.iload_n 1, 1) := by decide +kernel
theorem dX7_dark_41 : decode cX7_dark 41 = .ok (.iload_n 2, 1) := by decide +kernel
theorem dX7_dark_42 : decode cX7_dark 42 = .ok (.iastore, 1) := by decide +kernel
theorem dX7_dark_43 : decode cX7_dark 43 = .ok (.aload_n 0, 1) := by decide +kernel
theorem dX7_dark_44 : decode cX7_dark 44 = .ok (.getfield 10, 3) := by decide +kernel
theorem dX7_dark_47 : decode cX7_dark 47 = .ok (.getfield 38, 3) := by decide +kernel
theorem dX7_dark_50 : decode cX7_dark 50 = .ok (.getfield 83, 3) := by decide +kernel
theorem dX7_dark_53 : decode cX7_dark 53 = .ok (.iload_n 1, 1) := by decide +kernel
theorem dX7_dark_54 : decode cX7_dark 54 = .ok (.iload_n 3, 1) := by decide +kernel
theorem dX7_dark_55 : decode cX7_dark 55 = .ok (.iastore, 1) := by decide +kernel
theorem dX7_dark_56 : decode cX7_dark 56 = .ok (.aload_n 0, 1) := by decide +kernel
theorem dX7_dark_57 : decode cX7_dark 57 = .ok (.getfield 10, 3) := by decide +kernel
theorem dX7_dark_60 : decode cX7_dark 60 = .ok (.getfield 38, 3) := by decide +kernel
theorem dX7_dark_63 : decode cX7_dark 63 = .ok (.iload_n 1, 1) := by decide +kernel
theorem dX7_dark_64 : decode cX7_dark 64 = .ok (.invokevirtual 86, 3) := by decide +kernel
theorem dX7_dark_67 : decode cX7_dark 67 = .ok (.invokestatic 89, 3) := by decide +kernel
theorem dX7_dark_70 : decode cX7_dark 70 = .ok (.ireturn, 1) := by decide +kernel
theorem dX7_delay_0 : decode cX7_delay 0 = .ok (.aload_n 0, 1) := by decide +kernel
theorem dX7_delay_1 : decode cX7_delay 1 = .ok (.iload_n 1, 1) := by decide +kernel
theorem dX7_delay_2 : decode cX7_delay 2 = .ok (.iload_n 2, 1) := by decide +kernel
theorem dX7_delay_3 : decode cX7_delay 3 = .ok (.invokevirtual 93, 3) := by decide +kernel
theorem dX7_delay_6 : decode cX7_delay 6 = .ok (.ifCond .eq 13, 3) := by decide +kernel
theorem dX7_delay_9 : decode cX7_delay 9 = .ok (.iload_n 3, 1) := by decide +kernel
theorem dX7_delay_10 : decode cX7_delay 10 = .ok (.iconst 1, 1) := by decide +kernel
theorem dX7_delay_11 : decode cX7_delay 11 = .ok (.bipush 9, 2) := by decide +kernel
theorem dX7_delay_13 : decode cX7_delay 13 = .ok (.invokestatic 54, 3) := by decide +kernel
theorem dX7_delay_16 : decode cX7_delay 16 = .ok (.ifCond .ne 5, 3) := by decide +kernel
theorem dX7_delay_19 : decode cX7_delay 19 = .ok (.iconst (-1), 1) := by decide +kernel
theorem dX7_delay_20 : decode cX7_delay 20 = .ok (.ireturn, 1) := by decide +kernel
theorem dX7_delay_21 : decode cX7_delay 21 = .ok (.aload_n 0, 1) := by decide +kernel
theorem dX7_delay_22 : decode cX7_delay 22 = .ok (.getfield 10, 3) := by decide +kernel
theorem dX7_delay_25 : decode cX7_delay 25 = .ok (.getfield 38, 3) := by decide +kernel
theorem dX7_delay_28 : decode cX7_delay 28 = .ok (.getfield 97, 3) := by decide +kernel
theorem dX7_delay_31 : decode cX7_delay 31 = .ok (.iload_n 1, 1) := by decide +kernel
theorem dX7_delay_32 : decode cX7_delay 32 = .ok (.aaload, 1) := by decide +kernel
theorem dX7_delay_33 : decode cX7_delay 33 = .ok (.iload_n 2, 1) := by decide +kernel
theorem dX7_delay_34 : decode cX7_delay 34 = .ok (.iaload, 1) := by decide +kernel
theorem dX7_delay_35 : decode cX7_delay 35 = .ok (.istore 4, 2) := by decide +kernel
theorem dX7_delay_37 : decode cX7_delay 37 = .ok (.aload_n 0, 1) := by decide +kernel
theorem dX7_delay_38 : decode cX7_delay 38 = .ok (.getfield 10, 3) := by decide +kernel
theorem dX7_delay_41 : decode cX7_delay 41 = .ok (.getfield 38, 3) := by decide +kernel
theorem dX7_delay_44 : decode cX7_delay 44 = .ok (.getfield 97, 3) := by decide +kernel
theorem dX7_delay_47 : decode cX7_delay 47 = .ok (.iload_n 1, 1) := by decide +kernel
theorem dX7_delay_48 : decode cX7_delay 48 = .ok (.aaload, 1) := by decide +kernel
theorem dX7_delay_49 : decode cX7_delay 49 = .ok (.iload_n 2, 1) := by decide +kernel
theorem dX7_delay_50 : decode cX7_delay 50 = .ok (.iload_n 3, 1) := by decide +kernel
theorem dX7_delay_51 : decode cX7_delay 51 = .ok (.iastore, 1) := by decide +kernel
theorem dX7_delay_52 : decode cX7_delay 52 = .ok (.iload 4, 2) := by decide +kernel
theorem dX7_delay_54 : decode cX7_delay 54 = .ok (.ireturn, 1) := by decide +kernel
theorem dX7_told_0 : decode cX7_told 0 = .ok (.aload_n 0, 1) := by decide +kernel
theorem dX7_told_1 : decode cX7_told 1 = .ok (.iload_n 1, 1) := by decide +kernel
theorem dX7_told_2 : decode cX7_told 2 = .ok (.invokevirtual 72, 3) := by decide +kernel
theorem dX7_told_5 : decode cX7_told 5 = .ok (.ifCond .ne 5, 3) := by decide +kernel
theorem dX7_told_8 : decode cX7_told 8 = .ok (.iconst (-1), 1) := by decide +kernel
theorem dX7_told_9 : decode cX7_told 9 = .ok (.ireturn, 1) := by decide +kernel
theorem dX7_told_10 : decode cX7_told 10 = .ok (.aload_n 0, 1) := by decide +kernel
theorem dX7_told_11 : decode cX7_told 11 = .ok (.getfield 10, 3) := by decide +kernel
theorem dX7_told_14 : decode cX7_told 14 = .ok (.getfield 38, 3) := by decide +kernel
theorem dX7_told_17 : decode cX7_told 17 = .ok (.astore_n 3, 1) := by decide +kernel
theorem dX7_told_18 : decode cX7_told 18 = .ok (.iload_n 2, 1) := by decide +kernel
theorem dX7_told_19 : decode cX7_told 19 = .ok (.tableswitch 104 0 7 #[45, 52, 58, 65, 72, 79, 86, 95], 45) := by decide +kernel
theorem dX7_told_64 : decode cX7_told 64 = .ok (.aload_n 3, 1) := by decide +kernel
theorem dX7_told_65 : decode cX7_told 65 = .ok (.getfield 76, 3) := by decide +kernel
theorem dX7_told_68 : decode cX7_told 68 = .ok (.iload_n 1, 1) := by decide +kernel
theorem dX7_told_69 : decode cX7_told 69 = .ok (.iaload, 1) := by decide +kernel
theorem dX7_told_70 : decode cX7_told 70 = .ok (.ireturn, 1) := by decide +kernel
theorem dX7_told_71 : decode cX7_told 71 = .ok (.aload_n 3, 1) := by decide +kernel
theorem dX7_told_72 : decode cX7_told 72 = .ok (.iload_n 1, 1) := by decide +kernel
theorem dX7_told_73 : decode cX7_told 73 = .ok (.invokevirtual 101, 3) := by decide +kernel
theorem dX7_told_76 : decode cX7_told 76 = .ok (.ireturn, 1) := by decide +kernel
theorem dX7_told_77 : decode cX7_told 77 = .ok (.aload_n 3, 1) := by decide +kernel
theorem dX7_told_78 : decode cX7_told 78 = .ok (.getfield 105, 3) := by decide +kernel
theorem dX7_told_81 : decode cX7_told 81 = .ok (.iload_n 1, 1) := by decide +kernel
theorem dX7_told_82 : decode cX7_told 82 = .ok (.iaload, 1) := by decide +kernel
theorem dX7_told_83 : decode cX7_told 83 = .ok (.ireturn, 1) := by decide +kernel
theorem dX7_told_84 : decode cX7_told 84 = .ok (.aload_n 3, 1) := by decide +kernel
theorem dX7_told_85 : decode cX7_told 85 = .ok (.getfield 108, 3) := by decide +kernel
theorem dX7_told_88 : decode cX7_told 88 = .ok (.iload_n 1, 1) := by decide +kernel
theorem dX7_told_89 : decode cX7_told 89 = .ok (.iaload, 1) := by decide +kernel
theorem dX7_told_90 : decode cX7_told 90 = .ok (.ireturn, 1) := by decide +kernel
theorem dX7_told_91 : decode cX7_told 91 = .ok (.aload_n 3, 1) := by decide +kernel
theorem dX7_told_92 : decode cX7_told 92 = .ok (.getfield 80, 3) := by decide +kernel
theorem dX7_told_95 : decode cX7_told 95 = .ok (.iload_n 1, 1) := by decide +kernel
theorem dX7_told_96 : decode cX7_told 96 = .ok (.iaload, 1) := by decide +kernel
theorem dX7_told_97 : decode cX7_told 97 = .ok (.ireturn, 1) := by decide +kernel
theorem dX7_told_98 : decode cX7_told 98 = .ok (.aload_n 3, 1) := by decide +kernel
theorem dX7_told_99 : decode cX7_told 99 = .ok (.getfield 83, 3) := by decide +kernel
theorem dX7_told_102 : decode cX7_told 102 = .ok (.iload_n 1, 1) := by decide +kernel
theorem dX7_told_103 : decode cX7_told 103 = .ok (.iaload, 1) := by decide +kernel
theorem dX7_told_104 : decode cX7_told 104 = .ok (.ireturn, 1) := by decide +kernel
theorem dX7_told_105 : decode cX7_told 105 = .ok (.aload_n 3, 1) := by decide +kernel
theorem dX7_told_106 : decode cX7_told 106 = .ok (.iload_n 1, 1) := by decide +kernel
theorem dX7_told_107 : decode cX7_told 107 = .ok (.invokevirtual 86, 3) := by decide +kernel
theorem dX7_told_110 : decode cX7_told 110 = .ok (.invokestatic 89, 3) := by decide +kernel
theorem dX7_told_113 : decode cX7_told 113 = .ok (.ireturn, 1) := by decide +kernel
theorem dX7_told_114 : decode cX7_told 114 = .ok (.aload_n 3, 1) := by decide +kernel
theorem dX7_told_115 : decode cX7_told 115 = .ok (.iload_n 1, 1) := by decide +kernel
theorem dX7_told_116 : decode cX7_told 116 = .ok (.invokevirtual 111, 3) := by decide +kernel
theorem dX7_told_119 : decode cX7_told 119 = .ok (.invokestatic 89, 3) := by decide +kernel
theorem dX7_told_122 : decode cX7_told 122 = .ok (.ireturn, 1) := by decide +kernel
theorem dX7_told_123 : decode cX7_told 123 = .ok (.iconst (-1), 1) := by decide +kernel
theorem dX7_told_124 : decode cX7_told 124 = .ok (.ireturn, 1) := by decide +kernel
theorem dX7_heard_0 : decode cX7_heard 0 = .ok (.aload_n 0, 1) := by decide +kernel
theorem dX7_heard_1 : decode cX7_heard 1 = .ok (.iload_n 1, 1) := by decide +kernel
theorem dX7_heard_2 : decode cX7_heard 2 = .ok (.invokevirtual 72, 3) := by decide +kernel
theorem dX7_heard_5 : decode cX7_heard 5 = .ok (.ifCond .eq 11, 3) := by decide +kernel
theorem dX7_heard_8 : decode cX7_heard 8 = .ok (.aload_n 0, 1) := by decide +kernel
theorem dX7_heard_9 : decode cX7_heard 9 = .ok (.iload_n 2, 1) := by decide +kernel
theorem dX7_heard_10 : decode cX7_heard 10 = .ok (.invokevirtual 72, 3) := by decide +kernel
theorem dX7_heard_13 : decode cX7_heard 13 = .ok (.ifCond .ne 5, 3) := by decide +kernel
theorem dX7_heard_16 : decode cX7_heard 16 = .ok (.iconst (-1), 1) := by decide +kernel
theorem dX7_heard_17 : decode cX7_heard 17 = .ok (.ireturn, 1) := by decide +kernel
theorem dX7_heard_18 : decode cX7_heard 18 = .ok (.aload_n 0, 1) := by decide +kernel
theorem dX7_heard_19 : decode cX7_heard 19 = .ok (.getfield 10, 3) := by decide +kernel
theorem dX7_heard_22 : decode cX7_heard 22 = .ok (.getfield 38, 3) := by decide +kernel
theorem dX7_heard_25 : decode cX7_heard 25 = .ok (.iload_n 1, 1) := by decide +kernel
theorem dX7_heard_26 : decode cX7_heard 26 = .ok (.iload_n 2, 1) := by decide +kernel
theorem dX7_heard_27 : decode cX7_heard 27 = .ok (.invokevirtual 114, 3) := by decide +kernel
theorem dX7_heard_30 : decode cX7_heard 30 = .ok (.ireturn, 1) := by decide +kernel
theorem dX7_counts_0 : decode cX7_counts 0 = .ok (.aload_n 0, 1) := by decide +kernel
theorem dX7_counts_1 : decode cX7_counts 1 = .ok (.iload_n 1, 1) := by decide +kernel
theorem dX7_counts_2 : decode cX7_counts 2 = .ok (.invokevirtual 72, 3) := by decide +kernel
theorem dX7_counts_5 : decode cX7_counts 5 = .ok (.ifCond .eq 12, 3) := by decide +kernel
theorem dX7_counts_8 : decode cX7_counts 8 = .ok (.iload_n 2, 1) := by decide +kernel
theorem dX7_counts_9 : decode cX7_counts 9 = .ok (.iconst 0, 1) := by decide +kernel
theorem dX7_counts_10 : decode cX7_counts 10 = .ok (.iconst 2, 1) := by decide +kernel
theorem dX7_counts_11 : decode cX7_counts 11 = .ok (.invokestatic 54, 3) := by decide +kernel
theorem dX7_counts_14 : decode cX7_counts 14 = .ok (.ifCond .ne 5, 3) := by decide +kernel
theorem dX7_counts_17 : decode cX7_counts 17 = .ok (.iconst (-1), 1) := by decide +kernel
theorem dX7_counts_18 : decode cX7_counts 18 = .ok (.ireturn, 1) := by decide +kernel
theorem dX7_counts_19 : decode cX7_counts 19 = .ok (.aload_n 0, 1) := by decide +kernel
theorem dX7_counts_20 : decode cX7_counts 20 = .ok (.getfield 10, 3) := by decide +kernel
theorem dX7_counts_23 : decode cX7_counts 23 = .ok (.getfield 38, 3) := by decide +kernel
theorem dX7_counts_26 : decode cX7_counts 26 = .ok (.iload_n 1, 1) := by decide +kernel
theorem dX7_counts_27 : decode cX7_counts 27 = .ok (.iload_n 2, 1) := by decide +kernel
theorem dX7_counts_28 : decode cX7_counts 28 = .ok (.invokevirtual 117, 3) := by decide +kernel
theorem dX7_counts_31 : decode cX7_counts 31 = .ok (.ireturn, 1) := by decide +kernel
theorem dX7_due_0 : decode cX7_due 0 = .ok (.aload_n 0, 1) := by decide +kernel
theorem dX7_due_1 : decode cX7_due 1 = .ok (.iload_n 1, 1) := by decide +kernel
theorem dX7_due_2 : decode cX7_due 2 = .ok (.iload_n 2, 1) := by decide +kernel
theorem dX7_due_3 : decode cX7_due 3 = .ok (.invokevirtual 93, 3) := by decide +kernel
theorem dX7_due_6 : decode cX7_due 6 = .ok (.ifCond .eq 13, 3) := by decide +kernel
theorem dX7_due_9 : decode cX7_due 9 = .ok (.iload_n 3, 1) := by decide +kernel
theorem dX7_due_10 : decode cX7_due 10 = .ok (.iconst 0, 1) := by decide +kernel
theorem dX7_due_11 : decode cX7_due 11 = .ok (.bipush 18, 2) := by decide +kernel
theorem dX7_due_13 : decode cX7_due 13 = .ok (.invokestatic 54, 3) := by decide +kernel
theorem dX7_due_16 : decode cX7_due 16 = .ok (.ifCond .ne 5, 3) := by decide +kernel
theorem dX7_due_19 : decode cX7_due 19 = .ok (.iconst (-1), 1) := by decide +kernel
theorem dX7_due_20 : decode cX7_due 20 = .ok (.ireturn, 1) := by decide +kernel
theorem dX7_due_21 : decode cX7_due 21 = .ok (.aload_n 0, 1) := by decide +kernel
theorem dX7_due_22 : decode cX7_due 22 = .ok (.getfield 10, 3) := by decide +kernel
theorem dX7_due_25 : decode cX7_due 25 = .ok (.getfield 38, 3) := by decide +kernel
theorem dX7_due_28 : decode cX7_due 28 = .ok (.iload_n 1, 1) := by decide +kernel
theorem dX7_due_29 : decode cX7_due 29 = .ok (.iload_n 2, 1) := by decide +kernel
theorem dX7_due_30 : decode cX7_due 30 = .ok (.iload_n 3, 1) := by decide +kernel
theorem dX7_due_31 : decode cX7_due 31 = .ok (.invokevirtual 120, 3) := by decide +kernel
theorem dX7_due_34 : decode cX7_due 34 = .ok (.ireturn, 1) := by decide +kernel
theorem dX7_rule_0 : decode cX7_rule 0 = .ok (.iload_n 1, 1) := by decide +kernel
theorem dX7_rule_1 : decode cX7_rule 1 = .ok (.iconst 0, 1) := by decide +kernel
theorem dX7_rule_2 : decode cX7_rule 2 = .ok (.aload_n 0, 1) := by decide +kernel
theorem dX7_rule_3 : decode cX7_rule 3 = .ok (.getfield 10, 3) := by decide +kernel
theorem dX7_rule_6 : decode cX7_rule 6 = .ok (.getfield 42, 3) := by decide +kernel
theorem dX7_rule_9 : decode cX7_rule 9 = .ok (.getfield 124, 3) := by decide +kernel
theorem dX7_rule_12 : decode cX7_rule 12 = .ok (.iconst 1, 1) := by decide +kernel
theorem dX7_rule_13 : decode cX7_rule 13 = .ok (.isub, 1) := by decide +kernel
theorem dX7_rule_14 : decode cX7_rule 14 = .ok (.invokestatic 54, 3) := by decide +kernel
theorem dX7_rule_17 : decode cX7_rule 17 = .ok (.ifCond .ne 5, 3) := by decide +kernel
theorem dX7_rule_20 : decode cX7_rule 20 = .ok (.iconst (-1), 1) := by decide +kernel
theorem dX7_rule_21 : decode cX7_rule 21 = .ok (.ireturn, 1) := by decide +kernel
theorem dX7_rule_22 : decode cX7_rule 22 = .ok (.iload_n 2, 1) := by decide +kernel
theorem dX7_rule_23 : decode cX7_rule 23 = .ok (.tableswitch 81 0 3 #[29, 42, 55, 68], 29) := by decide +kernel
theorem dX7_rule_52 : decode cX7_rule 52 = .ok (.aload_n 0, 1) := by decide +kernel
theorem dX7_rule_53 : decode cX7_rule 53 = .ok (.getfield 10, 3) := by decide +kernel
theorem dX7_rule_56 : decode cX7_rule 56 = .ok (.getfield 42, 3) := by decide +kernel
theorem dX7_rule_59 : decode cX7_rule 59 = .ok (.getfield 129, 3) := by decide +kernel
theorem dX7_rule_62 : decode cX7_rule 62 = .ok (.iload_n 1, 1) := by decide +kernel
theorem dX7_rule_63 : decode cX7_rule 63 = .ok (.iaload, 1) := by decide +kernel
theorem dX7_rule_64 : decode cX7_rule 64 = .ok (.ireturn, 1) := by decide +kernel
theorem dX7_rule_65 : decode cX7_rule 65 = .ok (.aload_n 0, 1) := by decide +kernel
theorem dX7_rule_66 : decode cX7_rule 66 = .ok (.getfield 10, 3) := by decide +kernel
theorem dX7_rule_69 : decode cX7_rule 69 = .ok (.getfield 42, 3) := by decide +kernel
theorem dX7_rule_72 : decode cX7_rule 72 = .ok (.getfield 131, 3) := by decide +kernel
theorem dX7_rule_75 : decode cX7_rule 75 = .ok (.iload_n 1, 1) := by decide +kernel
theorem dX7_rule_76 : decode cX7_rule 76 = .ok (.iaload, 1) := by decide +kernel
theorem dX7_rule_77 : decode cX7_rule 77 = .ok (.ireturn, 1) := by decide +kernel
theorem dX7_rule_78 : decode cX7_rule 78 = .ok (.aload_n 0, 1) := by decide +kernel
theorem dX7_rule_79 : decode cX7_rule 79 = .ok (.getfield 10, 3) := by decide +kernel
theorem dX7_rule_82 : decode cX7_rule 82 = .ok (.getfield 42, 3) := by decide +kernel
theorem dX7_rule_85 : decode cX7_rule 85 = .ok (.getfield 134, 3) := by decide +kernel
theorem dX7_rule_88 : decode cX7_rule 88 = .ok (.iload_n 1, 1) := by decide +kernel
theorem dX7_rule_89 : decode cX7_rule 89 = .ok (.iaload, 1) := by decide +kernel
theorem dX7_rule_90 : decode cX7_rule 90 = .ok (.ireturn, 1) := by decide +kernel
theorem dX7_rule_91 : decode cX7_rule 91 = .ok (.aload_n 0, 1) := by decide +kernel
theorem dX7_rule_92 : decode cX7_rule 92 = .ok (.getfield 10, 3) := by decide +kernel
theorem dX7_rule_95 : decode cX7_rule 95 = .ok (.getfield 42, 3) := by decide +kernel
theorem dX7_rule_98 : decode cX7_rule 98 = .ok (.getfield 137, 3) := by decide +kernel
theorem dX7_rule_101 : decode cX7_rule 101 = .ok (.iload_n 1, 1) := by decide +kernel
theorem dX7_rule_102 : decode cX7_rule 102 = .ok (.iaload, 1) := by decide +kernel
theorem dX7_rule_103 : decode cX7_rule 103 = .ok (.ireturn, 1) := by decide +kernel
theorem dX7_rule_104 : decode cX7_rule 104 = .ok (.iconst (-1), 1) := by decide +kernel
theorem dX7_rule_105 : decode cX7_rule 105 = .ok (.ireturn, 1) := by decide +kernel
theorem dX7_add_0 : decode cX7_add 0 = .ok (.iload_n 1, 1) := by decide +kernel
theorem dX7_add_1 : decode cX7_add 1 = .ok (.iconst 0, 1) := by decide +kernel
theorem dX7_add_2 : decode cX7_add 2 = .ok (.iconst 2, 1) := by decide +kernel
theorem dX7_add_3 : decode cX7_add 3 = .ok (.invokestatic 54, 3) := by decide +kernel
theorem dX7_add_6 : decode cX7_add 6 = .ok (.ifCond .eq 32, 3) := by decide +kernel
theorem dX7_add_9 : decode cX7_add 9 = .ok (.iload_n 2, 1) := by decide +kernel
theorem dX7_add_10 : decode cX7_add 10 = .ok (.iconst 0, 1) := by decide +kernel
theorem dX7_add_11 : decode cX7_add 11 = .ok (.bipush 9, 2) := by decide +kernel
theorem dX7_add_13 : decode cX7_add 13 = .ok (.invokestatic 54, 3) := by decide +kernel
theorem dX7_add_16 : decode cX7_add 16 = .ok (.ifCond .eq 22, 3) := by decide +kernel
theorem dX7_add_19 : decode cX7_add 19 = .ok (.iload_n 3, 1) := by decide +kernel
theorem dX7_add_20 : decode cX7_add 20 = .ok (.iconst 0, 1) := by decide +kernel
theorem dX7_add_21 : decode cX7_add 21 = .ok (.iconst 2, 1) := by decide +kernel
theorem dX7_add_22 : decode cX7_add 22 = .ok (.invokestatic 54, 3) := by decide +kernel
theorem dX7_add_25 : decode cX7_add 25 = .ok (.ifCond .eq 13, 3) := by decide +kernel
theorem dX7_add_28 : decode cX7_add 28 = .ok (.iload 4, 2) := by decide +kernel
theorem dX7_add_30 : decode cX7_add 30 = .ok (.iconst 0, 1) := by decide +kernel
theorem dX7_add_31 : decode cX7_add 31 = .ok (.iconst 2, 1) := by decide +kernel
theorem dX7_add_32 : decode cX7_add 32 = .ok (.invokestatic 54, 3) := by decide +kernel
theorem dX7_add_35 : decode cX7_add 35 = .ok (.ifCond .ne 5, 3) := by decide +kernel
theorem dX7_add_38 : decode cX7_add 38 = .ok (.iconst (-1), 1) := by decide +kernel
theorem dX7_add_39 : decode cX7_add 39 = .ok (.ireturn, 1) := by decide +kernel
theorem dX7_add_40 : decode cX7_add 40 = .ok (.aload_n 0, 1) := by decide +kernel
theorem dX7_add_41 : decode cX7_add 41 = .ok (.getfield 10, 3) := by decide +kernel
theorem dX7_add_44 : decode cX7_add 44 = .ok (.getfield 42, 3) := by decide +kernel
theorem dX7_add_47 : decode cX7_add 47 = .ok (.getfield 124, 3) := by decide +kernel
theorem dX7_add_50 : decode cX7_add 50 = .ok (.bipush 8, 2) := by decide +kernel
theorem dX7_add_52 : decode cX7_add 52 = .ok (.if_icmp .lt 6, 3) := by decide +kernel
theorem dX7_add_55 : decode cX7_add 55 = .ok (.bipush (-3), 2) := by decide +kernel
theorem dX7_add_57 : decode cX7_add 57 = .ok (.ireturn, 1) := by decide +kernel
theorem dX7_add_58 : decode cX7_add 58 = .ok (.aload_n 0, 1) := by decide +kernel
theorem dX7_add_59 : decode cX7_add 59 = .ok (.getfield 10, 3) := by decide +kernel
theorem dX7_add_62 : decode cX7_add 62 = .ok (.getfield 42, 3) := by decide +kernel
theorem dX7_add_65 : decode cX7_add 65 = .ok (.iload_n 1, 1) := by decide +kernel
theorem dX7_add_66 : decode cX7_add 66 = .ok (.iload_n 2, 1) := by decide +kernel
theorem dX7_add_67 : decode cX7_add 67 = .ok (.iload_n 3, 1) := by decide +kernel
theorem dX7_add_68 : decode cX7_add 68 = .ok (.iload 4, 2) := by decide +kernel
theorem dX7_add_70 : decode cX7_add 70 = .ok (.invokevirtual 140, 3) := by decide +kernel
theorem dX7_add_73 : decode cX7_add 73 = .ok (.ireturn, 1) := by decide +kernel
theorem dX7_type_0 : decode cX7_type 0 = .ok (.iload_n 1, 1) := by decide +kernel
theorem dX7_type_1 : decode cX7_type 1 = .ok (.bipush 32, 2) := by decide +kernel
theorem dX7_type_3 : decode cX7_type 3 = .ok (.bipush 126, 2) := by decide +kernel
theorem dX7_type_5 : decode cX7_type 5 = .ok (.invokestatic 54, 3) := by decide +kernel
theorem dX7_type_8 : decode cX7_type 8 = .ok (.ifCond .ne 5, 3) := by decide +kernel
theorem dX7_type_11 : decode cX7_type 11 = .ok (.iconst (-1), 1) := by decide +kernel
theorem dX7_type_12 : decode cX7_type 12 = .ok (.ireturn, 1) := by decide +kernel
theorem dX7_type_13 : decode cX7_type 13 = .ok (.aload_n 0, 1) := by decide +kernel
theorem dX7_type_14 : decode cX7_type 14 = .ok (.getfield 26, 3) := by decide +kernel
theorem dX7_type_17 : decode cX7_type 17 = .ok (.getfield 144, 3) := by decide +kernel
theorem dX7_type_20 : decode cX7_type 20 = .ok (.sipush 160, 3) := by decide +kernel
theorem dX7_type_23 : decode cX7_type 23 = .ok (.if_icmp .lt 6, 3) := by decide +kernel
theorem dX7_type_26 : decode cX7_type 26 = .ok (.bipush (-3), 2) := by decide +kernel
theorem dX7_type_28 : decode cX7_type 28 = .ok (.ireturn, 1) := by decide +kernel
theorem dX7_type_29 : decode cX7_type 29 = .ok (.aload_n 0, 1) := by decide +kernel
theorem dX7_type_30 : decode cX7_type 30 = .ok (.getfield 26, 3) := by decide +kernel
theorem dX7_type_33 : decode cX7_type 33 = .ok (.iload_n 1, 1) := by decide +kernel
theorem dX7_type_34 : decode cX7_type 34 = .ok (.invokevirtual 145, 3) := by decide +kernel
theorem dX7_type_37 : decode cX7_type 37 = .ok (.ireturn, 1) := by decide +kernel
theorem dX7_laws_0 : decode cX7_laws 0 = .ok (.aload_n 0, 1) := by decide +kernel
theorem dX7_laws_1 : decode cX7_laws 1 = .ok (.getfield 26, 3) := by decide +kernel
theorem dX7_laws_4 : decode cX7_laws 4 = .ok (.invokevirtual 147, 3) := by decide +kernel
theorem dX7_laws_7 : decode cX7_laws 7 = .ok (.istore_n 1, 1) := by decide +kernel
theorem dX7_laws_8 : decode cX7_laws 8 = .ok (.aload_n 0, 1) := by decide +kernel
theorem dX7_laws_9 : decode cX7_laws 9 = .ok (.getfield 26, 3) := by decide +kernel
theorem dX7_laws_12 : decode cX7_laws 12 = .ok (.iconst 0, 1) := by decide +kernel
theorem dX7_laws_13 : decode cX7_laws 13 = .ok (.putfield 144, 3) := by decide +kernel
theorem dX7_laws_16 : decode cX7_laws 16 = .ok (.iload_n 1, 1) := by decide +kernel
theorem dX7_laws_17 : decode cX7_laws 17 = .ok (.ifCond .lt 20, 3) := by decide +kernel
theorem dX7_laws_20 : decode cX7_laws 20 = .ok (.aload_n 0, 1) := by decide +kernel
theorem dX7_laws_21 : decode cX7_laws 21 = .ok (.getfield 10, 3) := by decide +kernel
theorem dX7_laws_24 : decode cX7_laws 24 = .ok (.getfield 42, 3) := by decide +kernel
theorem dX7_laws_27 : decode cX7_laws 27 = .ok (.aload_n 0, 1) := by decide +kernel
theorem dX7_laws_28 : decode cX7_laws 28 = .ok (.getfield 26, 3) := by decide +kernel
theorem dX7_laws_31 : decode cX7_laws 31 = .ok (.getfield 150, 3) := by decide +kernel
theorem dX7_laws_34 : decode cX7_laws 34 = .ok (.invokevirtual 151, 3) := by decide +kernel
theorem dX7_laws_37 : decode cX7_laws 37 = .ok (.iload_n 1, 1) := by decide +kernel
theorem dX7_laws_38 : decode cX7_laws 38 = .ok (.ireturn, 1) := by decide +kernel
theorem dX7_rocks_0 : decode cX7_rocks 0 = .ok (.aload_n 0, 1) := by decide +kernel
theorem dX7_rocks_1 : decode cX7_rocks 1 = .ok (.getfield 26, 3) := by decide +kernel
theorem dX7_rocks_4 : decode cX7_rocks 4 = .ok (.invokevirtual 155, 3) := by decide +kernel
theorem dX7_rocks_7 : decode cX7_rocks 7 = .ok (.istore_n 1, 1) := by decide +kernel
theorem dX7_rocks_8 : decode cX7_rocks 8 = .ok (.aload_n 0, 1) := by decide +kernel
theorem dX7_rocks_9 : decode cX7_rocks 9 = .ok (.getfield 26, 3) := by decide +kernel
theorem dX7_rocks_12 : decode cX7_rocks 12 = .ok (.iconst 0, 1) := by decide +kernel
theorem dX7_rocks_13 : decode cX7_rocks 13 = .ok (.putfield 144, 3) := by decide +kernel
theorem dX7_rocks_16 : decode cX7_rocks 16 = .ok (.iload_n 1, 1) := by decide +kernel
theorem dX7_rocks_17 : decode cX7_rocks 17 = .ok (.ifCond .lt 97, 3) := by decide +kernel
theorem dX7_rocks_20 : decode cX7_rocks 20 = .ok (.aload_n 0, 1) := by decide +kernel
theorem dX7_rocks_21 : decode cX7_rocks 21 = .ok (.getfield 10, 3) := by decide +kernel
theorem dX7_rocks_24 : decode cX7_rocks 24 = .ok (.getfield 38, 3) := by decide +kernel
theorem dX7_rocks_27 : decode cX7_rocks 27 = .ok (.invokevirtual 158, 3) := by decide +kernel
theorem dX7_rocks_30 : decode cX7_rocks 30 = .ok (.iconst 0, 1) := by decide +kernel
theorem dX7_rocks_31 : decode cX7_rocks 31 = .ok (.istore_n 2, 1) := by decide +kernel
theorem dX7_rocks_32 : decode cX7_rocks 32 = .ok (.iload_n 2, 1) := by decide +kernel
theorem dX7_rocks_33 : decode cX7_rocks 33 = .ok (.iload_n 1, 1) := by decide +kernel
theorem dX7_rocks_34 : decode cX7_rocks 34 = .ok (.if_icmp .ge 80, 3) := by decide +kernel
theorem dX7_rocks_37 : decode cX7_rocks 37 = .ok (.aload_n 0, 1) := by decide +kernel
theorem dX7_rocks_38 : decode cX7_rocks 38 = .ok (.getfield 10, 3) := by decide +kernel
theorem dX7_rocks_41 : decode cX7_rocks 41 = .ok (.getfield 38, 3) := by decide +kernel
theorem dX7_rocks_44 : decode cX7_rocks 44 = .ok (.aload_n 0, 1) := by decide +kernel
theorem dX7_rocks_45 : decode cX7_rocks 45 = .ok (.getfield 26, 3) := by decide +kernel
theorem dX7_rocks_48 : decode cX7_rocks 48 = .ok (.getfield 161, 3) := by decide +kernel
theorem dX7_rocks_51 : decode cX7_rocks 51 = .ok (.iload_n 2, 1) := by decide +kernel
theorem dX7_rocks_52 : decode cX7_rocks 52 = .ok (.iaload, 1) := by decide +kernel
theorem dX7_rocks_53 : decode cX7_rocks 53 = .ok (.aload_n 0, 1) := by decide +kernel
theorem dX7_rocks_54 : decode cX7_rocks 54 = .ok (.getfield 26, 3) := by decide +kernel
theorem dX7_rocks_57 : decode cX7_rocks 57 = .ok (.getfield 162, 3) := by decide +kernel
theorem dX7_rocks_60 : decode cX7_rocks 60 = .ok (.iload_n 2, 1) := by decide +kernel
theorem dX7_rocks_61 : decode cX7_rocks 61 = .ok (.iaload, 1) := by decide +kernel
theorem dX7_rocks_62 : decode cX7_rocks 62 = .ok (.invokevirtual 64, 3) := by decide +kernel
theorem dX7_rocks_65 : decode cX7_rocks 65 = .ok (.istore_n 3, 1) := by decide +kernel
theorem dX7_rocks_66 : decode cX7_rocks 66 = .ok (.aload_n 0, 1) := by decide +kernel
theorem dX7_rocks_67 : decode cX7_rocks 67 = .ok (.getfield 10, 3) := by decide +kernel
theorem dX7_rocks_70 : decode cX7_rocks 70 = .ok (.getfield 38, 3) := by decide +kernel
theorem dX7_rocks_73 : decode cX7_rocks 73 = .ok (.getfield 80, 3) := by decide +kernel
theorem dX7_rocks_76 : decode cX7_rocks 76 = .ok (.iload_n 3, 1) := by decide +kernel
theorem dX7_rocks_77 : decode cX7_rocks 77 = .ok (.aload_n 0, 1) := by decide +kernel
theorem dX7_rocks_78 : decode cX7_rocks 78 = .ok (.getfield 26, 3) := by decide +kernel
theorem dX7_rocks_81 : decode cX7_rocks 81 = .ok (.getfield 163, 3) := by decide +kernel
theorem dX7_rocks_84 : decode cX7_rocks 84 = .ok (.iload_n 2, 1) := by decide +kernel
theorem dX7_rocks_85 : decode cX7_rocks 85 = .ok (.iaload, 1) := by decide +kernel
theorem dX7_rocks_86 : decode cX7_rocks 86 = .ok (.iastore, 1) := by decide +kernel
theorem dX7_rocks_87 : decode cX7_rocks 87 = .ok (.aload_n 0, 1) := by decide +kernel
theorem dX7_rocks_88 : decode cX7_rocks 88 = .ok (.getfield 10, 3) := by decide +kernel
theorem dX7_rocks_91 : decode cX7_rocks 91 = .ok (.getfield 38, 3) := by decide +kernel
theorem dX7_rocks_94 : decode cX7_rocks 94 = .ok (.getfield 83, 3) := by decide +kernel
theorem dX7_rocks_97 : decode cX7_rocks 97 = .ok (.iload_n 3, 1) := by decide +kernel
theorem dX7_rocks_98 : decode cX7_rocks 98 = .ok (.aload_n 0, 1) := by decide +kernel
theorem dX7_rocks_99 : decode cX7_rocks 99 = .ok (.getfield 26, 3) := by decide +kernel
theorem dX7_rocks_102 : decode cX7_rocks 102 = .ok (.getfield 164, 3) := by decide +kernel
theorem dX7_rocks_105 : decode cX7_rocks 105 = .ok (.iload_n 2, 1) := by decide +kernel
theorem dX7_rocks_106 : decode cX7_rocks 106 = .ok (.iaload, 1) := by decide +kernel
theorem dX7_rocks_107 : decode cX7_rocks 107 = .ok (.iastore, 1) := by decide +kernel
theorem dX7_rocks_108 : decode cX7_rocks 108 = .ok (.iinc 2 1, 3) := by decide +kernel
theorem dX7_rocks_111 : decode cX7_rocks 111 = .ok (.goto (-79), 3) := by decide +kernel
theorem dX7_rocks_114 : decode cX7_rocks 114 = .ok (.iload_n 1, 1) := by decide +kernel
theorem dX7_rocks_115 : decode cX7_rocks 115 = .ok (.ireturn, 1) := by decide +kernel
theorem dX7_count_0 : decode cX7_count 0 = .ok (.iload_n 1, 1) := by decide +kernel
theorem dX7_count_1 : decode cX7_count 1 = .ok (.tableswitch 142 0 7 #[47, 58, 69, 80, 91, 102, 117, 131], 47) := by decide +kernel
theorem dX7_count_48 : decode cX7_count 48 = .ok (.aload_n 0, 1) := by decide +kernel
theorem dX7_count_49 : decode cX7_count 49 = .ok (.getfield 10, 3) := by decide +kernel
theorem dX7_count_52 : decode cX7_count 52 = .ok (.getfield 38, 3) := by decide +kernel
theorem dX7_count_55 : decode cX7_count 55 = .ok (.getfield 58, 3) := by decide +kernel
theorem dX7_count_58 : decode cX7_count 58 = .ok (.ireturn, 1) := by decide +kernel
theorem dX7_count_59 : decode cX7_count 59 = .ok (.aload_n 0, 1) := by decide +kernel
theorem dX7_count_60 : decode cX7_count 60 = .ok (.getfield 10, 3) := by decide +kernel
theorem dX7_count_63 : decode cX7_count 63 = .ok (.getfield 42, 3) := by decide +kernel
theorem dX7_count_66 : decode cX7_count 66 = .ok (.getfield 124, 3) := by decide +kernel
theorem dX7_count_69 : decode cX7_count 69 = .ok (.ireturn, 1) := by decide +kernel
theorem dX7_count_70 : decode cX7_count 70 = .ok (.aload_n 0, 1) := by decide +kernel
theorem dX7_count_71 : decode cX7_count 71 = .ok (.getfield 10, 3) := by decide +kernel
theorem dX7_count_74 : decode cX7_count 74 = .ok (.getfield 38, 3) := by decide +kernel
theorem dX7_count_77 : decode cX7_count 77 = .ok (.getfield 165, 3) := by decide +kernel
theorem dX7_count_80 : decode cX7_count 80 = .ok (.ireturn, 1) := by decide +kernel
theorem dX7_count_81 : decode cX7_count 81 = .ok (.aload_n 0, 1) := by decide +kernel
theorem dX7_count_82 : decode cX7_count 82 = .ok (.getfield 10, 3) := by decide +kernel
theorem dX7_count_85 : decode cX7_count 85 = .ok (.getfield 38, 3) := by decide +kernel
theorem dX7_count_88 : decode cX7_count 88 = .ok (.getfield 168, 3) := by decide +kernel
theorem dX7_count_91 : decode cX7_count 91 = .ok (.ireturn, 1) := by decide +kernel
theorem dX7_count_92 : decode cX7_count 92 = .ok (.aload_n 0, 1) := by decide +kernel
theorem dX7_count_93 : decode cX7_count 93 = .ok (.getfield 10, 3) := by decide +kernel
theorem dX7_count_96 : decode cX7_count 96 = .ok (.getfield 171, 3) := by decide +kernel
theorem dX7_count_99 : decode cX7_count 99 = .ok (.getfield 175, 3) := by decide +kernel
theorem dX7_count_102 : decode cX7_count 102 = .ok (.ireturn, 1) := by decide +kernel
theorem dX7_count_103 : decode cX7_count 103 = .ok (.aload_n 0, 1) := by decide +kernel
theorem dX7_count_104 : decode cX7_count 104 = .ok (.getfield 10, 3) := by decide +kernel
theorem dX7_count_107 : decode cX7_count 107 = .ok (.getfield 38, 3) := by decide +kernel
theorem dX7_count_110 : decode cX7_count 110 = .ok (.iconst 0, 1) := by decide +kernel
theorem dX7_count_111 : decode cX7_count 111 = .ok (.invokevirtual 178, 3) := by decide +kernel
theorem dX7_count_114 : decode cX7_count 114 = .ok (.invokestatic 89, 3) := by decide +kernel
theorem dX7_count_117 : decode cX7_count 117 = .ok (.ireturn, 1) := by decide +kernel
theorem dX7_count_118 : decode cX7_count 118 = .ok (.aload_n 0, 1) := by decide +kernel
theorem dX7_count_119 : decode cX7_count 119 = .ok (.getfield 10, 3) := by decide +kernel
theorem dX7_count_122 : decode cX7_count 122 = .ok (.getfield 38, 3) := by decide +kernel
theorem dX7_count_125 : decode cX7_count 125 = .ok (.invokevirtual 181, 3) := by decide +kernel
theorem dX7_count_128 : decode cX7_count 128 = .ok (.invokestatic 89, 3) := by decide +kernel
theorem dX7_count_131 : decode cX7_count 131 = .ok (.ireturn, 1) := by decide +kernel
theorem dX7_count_132 : decode cX7_count 132 = .ok (.aload_n 0, 1) := by decide +kernel
theorem dX7_count_133 : decode cX7_count 133 = .ok (.getfield 10, 3) := by decide +kernel
theorem dX7_count_136 : decode cX7_count 136 = .ok (.getfield 38, 3) := by decide +kernel
theorem dX7_count_139 : decode cX7_count 139 = .ok (.invokevirtual 185, 3) := by decide +kernel
theorem dX7_count_142 : decode cX7_count 142 = .ok (.ireturn, 1) := by decide +kernel
theorem dX7_count_143 : decode cX7_count 143 = .ok (.iconst (-1), 1) := by decide +kernel
theorem dX7_count_144 : decode cX7_count 144 = .ok (.ireturn, 1) := by decide +kernel
theorem dX7_minute_0 : decode cX7_minute 0 = .ok (.aload_n 0, 1) := by decide +kernel
theorem dX7_minute_1 : decode cX7_minute 1 = .ok (.getfield 10, 3) := by decide +kernel
theorem dX7_minute_4 : decode cX7_minute 4 = .ok (.getfield 38, 3) := by decide +kernel
theorem dX7_minute_7 : decode cX7_minute 7 = .ok (.getfield 165, 3) := by decide +kernel
theorem dX7_minute_10 : decode cX7_minute 10 = .ok (.sipush 999, 3) := by decide +kernel
theorem dX7_minute_13 : decode cX7_minute 13 = .ok (.if_icmp .lt 8, 3) := by decide +kernel
theorem dX7_minute_16 : decode cX7_minute 16 = .ok (.bipush (-3), 2) := by decide +kernel
theorem dX7_minute_18 : decode cX7_minute 18 = .ok (.goto 21, 3) := by decide +kernel
theorem dX7_minute_21 : decode cX7_minute 21 = .ok (.aload_n 0, 1) := by decide +kernel
theorem dX7_minute_22 : decode cX7_minute 22 = .ok (.getfield 10, 3) := by decide +kernel
theorem dX7_minute_25 : decode cX7_minute 25 = .ok (.getfield 38, 3) := by decide +kernel
theorem dX7_minute_28 : decode cX7_minute 28 = .ok (.aload_n 0, 1) := by decide +kernel
theorem dX7_minute_29 : decode cX7_minute 29 = .ok (.getfield 10, 3) := by decide +kernel
theorem dX7_minute_32 : decode cX7_minute 32 = .ok (.getfield 42, 3) := by decide +kernel
theorem dX7_minute_35 : decode cX7_minute 35 = .ok (.iconst 0, 1) := by decide +kernel
theorem dX7_minute_36 : decode cX7_minute 36 = .ok (.invokevirtual 188, 3) := by decide +kernel
theorem dX7_minute_39 : decode cX7_minute 39 = .ok (.ireturn, 1) := by decide +kernel
theorem dX7_night_0 : decode cX7_night 0 = .ok (.aload_n 0, 1) := by decide +kernel
theorem dX7_night_1 : decode cX7_night 1 = .ok (.iload_n 1, 1) := by decide +kernel
theorem dX7_night_2 : decode cX7_night 2 = .ok (.iconst 0, 1) := by decide +kernel
theorem dX7_night_3 : decode cX7_night 3 = .ok (.invokevirtual 192, 3) := by decide +kernel
theorem dX7_night_6 : decode cX7_night 6 = .ok (.ireturn, 1) := by decide +kernel
theorem dX7_lots_0 : decode cX7_lots 0 = .ok (.aload_n 0, 1) := by decide +kernel
theorem dX7_lots_1 : decode cX7_lots 1 = .ok (.iload_n 1, 1) := by decide +kernel
theorem dX7_lots_2 : decode cX7_lots 2 = .ok (.iconst 1, 1) := by decide +kernel
theorem dX7_lots_3 : decode cX7_lots 3 = .ok (.invokevirtual 192, 3) := by decide +kernel
theorem dX7_lots_6 : decode cX7_lots 6 = .ok (.ireturn, 1) := by decide +kernel
theorem dX7_seed_0 : decode cX7_seed 0 = .ok (.iload_n 1, 1) := by decide +kernel
theorem dX7_seed_1 : decode cX7_seed 1 = .ok (.ifCond .ge 5, 3) := by decide +kernel
theorem dX7_seed_4 : decode cX7_seed 4 = .ok (.iconst (-1), 1) := by decide +kernel
theorem dX7_seed_5 : decode cX7_seed 5 = .ok (.ireturn, 1) := by decide +kernel
theorem dX7_seed_6 : decode cX7_seed 6 = .ok (.aload_n 0, 1) := by decide +kernel
theorem dX7_seed_7 : decode cX7_seed 7 = .ok (.getfield 10, 3) := by decide +kernel
theorem dX7_seed_10 : decode cX7_seed 10 = .ok (.getfield 38, 3) := by decide +kernel
theorem dX7_seed_13 : decode cX7_seed 13 = .ok (.getfield 196, 3) := by decide +kernel
theorem dX7_seed_16 : decode cX7_seed 16 = .ok (.istore_n 2, 1) := by decide +kernel
theorem dX7_seed_17 : decode cX7_seed 17 = .ok (.aload_n 0, 1) := by decide +kernel
theorem dX7_seed_18 : decode cX7_seed 18 = .ok (.getfield 10, 3) := by decide +kernel
theorem dX7_seed_21 : decode cX7_seed 21 = .ok (.getfield 38, 3) := by decide +kernel
theorem dX7_seed_24 : decode cX7_seed 24 = .ok (.iload_n 1, 1) := by decide +kernel
theorem dX7_seed_25 : decode cX7_seed 25 = .ok (.putfield 196, 3) := by decide +kernel
theorem dX7_seed_28 : decode cX7_seed 28 = .ok (.iload_n 2, 1) := by decide +kernel
theorem dX7_seed_29 : decode cX7_seed 29 = .ok (.ireturn, 1) := by decide +kernel
theorem dX7_behind_0 : decode cX7_behind 0 = .ok (.aload_n 0, 1) := by decide +kernel
theorem dX7_behind_1 : decode cX7_behind 1 = .ok (.iload_n 1, 1) := by decide +kernel
theorem dX7_behind_2 : decode cX7_behind 2 = .ok (.invokevirtual 72, 3) := by decide +kernel
theorem dX7_behind_5 : decode cX7_behind 5 = .ok (.ifCond .eq 22, 3) := by decide +kernel
theorem dX7_behind_8 : decode cX7_behind 8 = .ok (.iload_n 2, 1) := by decide +kernel
theorem dX7_behind_9 : decode cX7_behind 9 = .ok (.iconst 0, 1) := by decide +kernel
theorem dX7_behind_10 : decode cX7_behind 10 = .ok (.bipush 60, 2) := by decide +kernel
theorem dX7_behind_12 : decode cX7_behind 12 = .ok (.invokestatic 54, 3) := by decide +kernel
theorem dX7_behind_15 : decode cX7_behind 15 = .ok (.ifCond .eq 12, 3) := by decide +kernel
theorem dX7_behind_18 : decode cX7_behind 18 = .ok (.iload_n 3, 1) := by decide +kernel
theorem dX7_behind_19 : decode cX7_behind 19 = .ok (.iconst 0, 1) := by decide +kernel
theorem dX7_behind_20 : decode cX7_behind 20 = .ok (.iconst 1, 1) := by decide +kernel
theorem dX7_behind_21 : decode cX7_behind 21 = .ok (.invokestatic 54, 3) := by decide +kernel
theorem dX7_behind_24 : decode cX7_behind 24 = .ok (.ifCond .ne 5, 3) := by decide +kernel
theorem dX7_behind_27 : decode cX7_behind 27 = .ok (.iconst (-1), 1) := by decide +kernel
theorem dX7_behind_28 : decode cX7_behind 28 = .ok (.ireturn, 1) := by decide +kernel
theorem dX7_behind_29 : decode cX7_behind 29 = .ok (.aload_n 0, 1) := by decide +kernel
theorem dX7_behind_30 : decode cX7_behind 30 = .ok (.getfield 49, 3) := by decide +kernel
theorem dX7_behind_33 : decode cX7_behind 33 = .ok (.iload_n 2, 1) := by decide +kernel
theorem dX7_behind_34 : decode cX7_behind 34 = .ok (.invokevirtual 199, 3) := by decide +kernel
theorem dX7_behind_37 : decode cX7_behind 37 = .ok (.astore 4, 2) := by decide +kernel
theorem dX7_behind_39 : decode cX7_behind 39 = .ok (.iload_n 3, 1) := by decide +kernel
theorem dX7_behind_40 : decode cX7_behind 40 = .ok (.ifCond .ne 13, 3) := by decide +kernel
theorem dX7_behind_43 : decode cX7_behind 43 = .ok (.aload 4, 2) := by decide +kernel
theorem dX7_behind_45 : decode cX7_behind 45 = .ok (.getfield 105, 3) := by decide +kernel
theorem dX7_behind_48 : decode cX7_behind 48 = .ok (.iload_n 1, 1) := by decide +kernel
theorem dX7_behind_49 : decode cX7_behind 49 = .ok (.iaload, 1) := by decide +kernel
theorem dX7_behind_50 : decode cX7_behind 50 = .ok (.goto 9, 3) := by decide +kernel
theorem dX7_behind_53 : decode cX7_behind 53 = .ok (.aload 4, 2) := by decide +kernel
theorem dX7_behind_55 : decode cX7_behind 55 = .ok (.iload_n 1, 1) := by decide +kernel
theorem dX7_behind_56 : decode cX7_behind 56 = .ok (.invokevirtual 101, 3) := by decide +kernel
theorem dX7_behind_59 : decode cX7_behind 59 = .ok (.ireturn, 1) := by decide +kernel
theorem dX7_when_0 : decode cX7_when 0 = .ok (.iload_n 1, 1) := by decide +kernel
theorem dX7_when_1 : decode cX7_when 1 = .ok (.iconst 0, 1) := by decide +kernel
theorem dX7_when_2 : decode cX7_when 2 = .ok (.iconst 1, 1) := by decide +kernel
theorem dX7_when_3 : decode cX7_when 3 = .ok (.invokestatic 54, 3) := by decide +kernel
theorem dX7_when_6 : decode cX7_when 6 = .ok (.ifCond .ne 5, 3) := by decide +kernel
theorem dX7_when_9 : decode cX7_when 9 = .ok (.iconst (-1), 1) := by decide +kernel
theorem dX7_when_10 : decode cX7_when 10 = .ok (.ireturn, 1) := by decide +kernel
theorem dX7_when_11 : decode cX7_when 11 = .ok (.iload_n 1, 1) := by decide +kernel
theorem dX7_when_12 : decode cX7_when 12 = .ok (.ifCond .ne 13, 3) := by decide +kernel
theorem dX7_when_15 : decode cX7_when 15 = .ok (.aload_n 0, 1) := by decide +kernel
theorem dX7_when_16 : decode cX7_when 16 = .ok (.getfield 49, 3) := by decide +kernel
theorem dX7_when_19 : decode cX7_when 19 = .ok (.invokevirtual 203, 3) := by decide +kernel
theorem dX7_when_22 : decode cX7_when 22 = .ok (.goto 11, 3) := by decide +kernel
theorem dX7_when_25 : decode cX7_when 25 = .ok (.aload_n 0, 1) := by decide +kernel
theorem dX7_when_26 : decode cX7_when 26 = .ok (.getfield 49, 3) := by decide +kernel
theorem dX7_when_29 : decode cX7_when 29 = .ok (.iconst 0, 1) := by decide +kernel
theorem dX7_when_30 : decode cX7_when 30 = .ok (.invokevirtual 206, 3) := by decide +kernel
theorem dX7_when_33 : decode cX7_when 33 = .ok (.istore_n 2, 1) := by decide +kernel
theorem dX7_when_34 : decode cX7_when 34 = .ok (.iload_n 2, 1) := by decide +kernel
theorem dX7_when_35 : decode cX7_when 35 = .ok (.bipush 61, 2) := by decide +kernel
theorem dX7_when_37 : decode cX7_when 37 = .ok (.if_icmp .ne 8, 3) := by decide +kernel
theorem dX7_when_40 : decode cX7_when 40 = .ok (.bipush (-4), 2) := by decide +kernel
theorem dX7_when_42 : decode cX7_when 42 = .ok (.goto 4, 3) := by decide +kernel
theorem dX7_when_45 : decode cX7_when 45 = .ok (.iload_n 2, 1) := by decide +kernel
theorem dX7_when_46 : decode cX7_when 46 = .ok (.ireturn, 1) := by decide +kernel
theorem dX7_darkest_0 : decode cX7_darkest 0 = .ok (.iload_n 1, 1) := by decide +kernel
theorem dX7_darkest_1 : decode cX7_darkest 1 = .ok (.iconst 0, 1) := by decide +kernel
theorem dX7_darkest_2 : decode cX7_darkest 2 = .ok (.iconst 1, 1) := by decide +kernel
theorem dX7_darkest_3 : decode cX7_darkest 3 = .ok (.invokestatic 54, 3) := by decide +kernel
theorem dX7_darkest_6 : decode cX7_darkest 6 = .ok (.ifCond .ne 5, 3) := by decide +kernel
theorem dX7_darkest_9 : decode cX7_darkest 9 = .ok (.iconst (-1), 1) := by decide +kernel
theorem dX7_darkest_10 : decode cX7_darkest 10 = .ok (.ireturn, 1) := by decide +kernel
theorem dX7_darkest_11 : decode cX7_darkest 11 = .ok (.aload_n 0, 1) := by decide +kernel
theorem dX7_darkest_12 : decode cX7_darkest 12 = .ok (.getfield 10, 3) := by decide +kernel
theorem dX7_darkest_15 : decode cX7_darkest 15 = .ok (.getfield 38, 3) := by decide +kernel
theorem dX7_darkest_18 : decode cX7_darkest 18 = .ok (.getfield 58, 3) := by decide +kernel
theorem dX7_darkest_21 : decode cX7_darkest 21 = .ok (.ifCond .ne 6, 3) := by decide +kernel
theorem dX7_darkest_24 : decode cX7_darkest 24 = .ok (.bipush (-4), 2) := by decide +kernel
theorem dX7_darkest_26 : decode cX7_darkest 26 = .ok (.ireturn, 1) := by decide +kernel
theorem dX7_darkest_27 : decode cX7_darkest 27 = .ok (.aload_n 0, 1) := by decide +kernel
theorem dX7_darkest_28 : decode cX7_darkest 28 = .ok (.getfield 49, 3) := by decide +kernel
theorem dX7_darkest_31 : decode cX7_darkest 31 = .ok (.invokevirtual 209, 3) := by decide +kernel
