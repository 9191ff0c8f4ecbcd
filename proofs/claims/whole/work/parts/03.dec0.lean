theorem dX0_init_0 : decode cX0_init 0 = .ok (.aload_n 0, 1) := by decide +kernel
theorem dX0_init_1 : decode cX0_init 1 = .ok (.invokespecial 3, 3) := by decide +kernel
theorem dX0_init_4 : decode cX0_init 4 = .ok (.aload_n 0, 1) := by decide +kernel
theorem dX0_init_5 : decode cX0_init 5 = .ok (.iconst 0, 1) := by decide +kernel
theorem dX0_init_6 : decode cX0_init 6 = .ok (.putfield 9, 3) := by decide +kernel
theorem dX0_init_9 : decode cX0_init 9 = .ok (.aload_n 0, 1) := by decide +kernel
theorem dX0_init_10 : decode cX0_init 10 = .ok (.bipush 8, 2) := by decide +kernel
theorem dX0_init_12 : decode cX0_init 12 = .ok (.newarray .int, 2) := by decide +kernel
theorem dX0_init_14 : decode cX0_init 14 = .ok (.putfield 15, 3) := by decide +kernel
theorem dX0_init_17 : decode cX0_init 17 = .ok (.aload_n 0, 1) := by decide +kernel
theorem dX0_init_18 : decode cX0_init 18 = .ok (.bipush 8, 2) := by decide +kernel
theorem dX0_init_20 : decode cX0_init 20 = .ok (.newarray .int, 2) := by decide +kernel
theorem dX0_init_22 : decode cX0_init 22 = .ok (.putfield 19, 3) := by decide +kernel
theorem dX0_init_25 : decode cX0_init 25 = .ok (.aload_n 0, 1) := by decide +kernel
theorem dX0_init_26 : decode cX0_init 26 = .ok (.bipush 8, 2) := by decide +kernel
theorem dX0_init_28 : decode cX0_init 28 = .ok (.newarray .int, 2) := by decide +kernel
theorem dX0_init_30 : decode cX0_init 30 = .ok (.putfield 22, 3) := by decide +kernel
theorem dX0_init_33 : decode cX0_init 33 = .ok (.aload_n 0, 1) := by decide +kernel
theorem dX0_init_34 : decode cX0_init 34 = .ok (.bipush 8, 2) := by decide +kernel
theorem dX0_init_36 : decode cX0_init 36 = .ok (.newarray .int, 2) := by decide +kernel
theorem dX0_init_38 : decode cX0_init 38 = .ok (.putfield 25, 3) := by decide +kernel
theorem dX0_init_41 : decode cX0_init 41 = .ok (.return_, 1) := by decide +kernel
theorem dX0_append_0 : decode cX0_append 0 = .ok (.aload_n 0, 1) := by decide +kernel
theorem dX0_append_1 : decode cX0_append 1 = .ok (.getfield 15, 3) := by decide +kernel
theorem dX0_append_4 : decode cX0_append 4 = .ok (.aload_n 0, 1) := by decide +kernel
theorem dX0_append_5 : decode cX0_append 5 = .ok (.getfield 9, 3) := by decide +kernel
theorem dX0_append_8 : decode cX0_append 8 = .ok (.iload_n 1, 1) := by decide +kernel
theorem dX0_append_9 : decode cX0_append 9 = .ok (.iastore, 1) := by decide +kernel
theorem dX0_append_10 : decode cX0_append 10 = .ok (.aload_n 0, 1) := by decide +kernel
theorem dX0_append_11 : decode cX0_append 11 = .ok (.getfield 19, 3) := by decide +kernel
theorem dX0_append_14 : decode cX0_append 14 = .ok (.aload_n 0, 1) := by decide +kernel
theorem dX0_append_15 : decode cX0_append 15 = .ok (.getfield 9, 3) := by decide +kernel
theorem dX0_append_18 : decode cX0_append 18 = .ok (.iload_n 2, 1) := by decide +kernel
theorem dX0_append_19 : decode cX0_append 19 = .ok (.iastore, 1) := by decide +kernel
theorem dX0_append_20 : decode cX0_append 20 = .ok (.aload_n 0, 1) := by decide +kernel
theorem dX0_append_21 : decode cX0_append 21 = .ok (.getfield 22, 3) := by decide +kernel
theorem dX0_append_24 : decode cX0_append 24 = .ok (.aload_n 0, 1) := by decide +kernel
theorem dX0_append_25 : decode cX0_append 25 = .ok (.getfield 9, 3) := by decide +kernel
theorem dX0_append_28 : decode cX0_append 28 = .ok (.iload_n 3, 1) := by decide +kernel
theorem dX0_append_29 : decode cX0_append 29 = .ok (.iastore, 1) := by decide +kernel
theorem dX0_append_30 : decode cX0_append 30 = .ok (.aload_n 0, 1) := by decide +kernel
theorem dX0_append_31 : decode cX0_append 31 = .ok (.getfield 25, 3) := by decide +kernel
theorem dX0_append_34 : decode cX0_append 34 = .ok (.aload_n 0, 1) := by decide +kernel
theorem dX0_append_35 : decode cX0_append 35 = .ok (.getfield 9, 3) := by decide +kernel
theorem dX0_append_38 : decode cX0_append 38 = .ok (.iload 4, 2) := by decide +kernel
theorem dX0_append_40 : decode cX0_append 40 = .ok (.iastore, 1) := by decide +kernel
theorem dX0_append_41 : decode cX0_append 41 = .ok (.aload_n 0, 1) := by decide +kernel
theorem dX0_append_42 : decode cX0_append 42 = .ok (.dup, 1) := by decide +kernel
theorem dX0_append_43 : decode cX0_append 43 = .ok (.getfield 9, 3) := by decide +kernel
theorem dX0_append_46 : decode cX0_append 46 = .ok (.iconst 1, 1) := by decide +kernel
theorem dX0_append_47 : decode cX0_append 47 = .ok (.iadd, 1) := by decide +kernel
theorem dX0_append_48 : decode cX0_append 48 = .ok (.putfield 9, 3) := by decide +kernel
theorem dX0_append_51 : decode cX0_append 51 = .ok (.aload_n 0, 1) := by decide +kernel
theorem dX0_append_52 : decode cX0_append 52 = .ok (.getfield 9, 3) := by decide +kernel
theorem dX0_append_55 : decode cX0_append 55 = .ok (.ireturn, 1) := by decide +kernel
theorem dX0_become_0 : decode cX0_become 0 = .ok (.aload_n 0, 1) := by decide +kernel
theorem dX0_become_1 : decode cX0_become 1 = .ok (.aload_n 1, 1) := by decide +kernel
theorem dX0_become_2 : decode cX0_become 2 = .ok (.iconst (-1), 1) := by decide +kernel
theorem dX0_become_3 : decode cX0_become 3 = .ok (.invokevirtual 28, 3) := by decide +kernel
theorem dX0_become_6 : decode cX0_become 6 = .ok (.return_, 1) := by decide +kernel
theorem dX0_becomeWithNumber_0 : decode cX0_becomeWithNumber 0 = .ok (.aload_n 0, 1) := by decide +kernel
theorem dX0_becomeWithNumber_1 : decode cX0_becomeWithNumber 1 = .ok (.aload_n 1, 1) := by decide +kernel
theorem dX0_becomeWithNumber_2 : decode cX0_becomeWithNumber 2 = .ok (.invokevirtual 32, 3) := by decide +kernel
theorem dX0_becomeWithNumber_5 : decode cX0_becomeWithNumber 5 = .ok (.aload_n 0, 1) := by decide +kernel
theorem dX0_becomeWithNumber_6 : decode cX0_becomeWithNumber 6 = .ok (.getfield 19, 3) := by decide +kernel
theorem dX0_becomeWithNumber_9 : decode cX0_becomeWithNumber 9 = .ok (.iload_n 2, 1) := by decide +kernel
theorem dX0_becomeWithNumber_10 : decode cX0_becomeWithNumber 10 = .ok (.invokestatic 36, 3) := by decide +kernel
theorem dX0_becomeWithNumber_13 : decode cX0_becomeWithNumber 13 = .ok (.return_, 1) := by decide +kernel
theorem dX0_becomeWithout_0 : decode cX0_becomeWithout 0 = .ok (.aload_n 0, 1) := by decide +kernel
theorem dX0_becomeWithout_1 : decode cX0_becomeWithout 1 = .ok (.iconst 0, 1) := by decide +kernel
theorem dX0_becomeWithout_2 : decode cX0_becomeWithout 2 = .ok (.putfield 9, 3) := by decide +kernel
theorem dX0_becomeWithout_5 : decode cX0_becomeWithout 5 = .ok (.iconst 0, 1) := by decide +kernel
theorem dX0_becomeWithout_6 : decode cX0_becomeWithout 6 = .ok (.istore_n 3, 1) := by decide +kernel
theorem dX0_becomeWithout_7 : decode cX0_becomeWithout 7 = .ok (.iload_n 3, 1) := by decide +kernel
theorem dX0_becomeWithout_8 : decode cX0_becomeWithout 8 = .ok (.aload_n 1, 1) := by decide +kernel
theorem dX0_becomeWithout_9 : decode cX0_becomeWithout 9 = .ok (.getfield 9, 3) := by decide +kernel
theorem dX0_becomeWithout_12 : decode cX0_becomeWithout 12 = .ok (.if_icmp .ge 43, 3) := by decide +kernel
theorem dX0_becomeWithout_15 : decode cX0_becomeWithout 15 = .ok (.iload_n 3, 1) := by decide +kernel
theorem dX0_becomeWithout_16 : decode cX0_becomeWithout 16 = .ok (.iload_n 2, 1) := by decide +kernel
theorem dX0_becomeWithout_17 : decode cX0_becomeWithout 17 = .ok (.if_icmp .eq 32, 3) := by decide +kernel
theorem dX0_becomeWithout_20 : decode cX0_becomeWithout 20 = .ok (.aload_n 0, 1) := by decide +kernel
theorem dX0_becomeWithout_21 : decode cX0_becomeWithout 21 = .ok (.aload_n 1, 1) := by decide +kernel
theorem dX0_becomeWithout_22 : decode cX0_becomeWithout 22 = .ok (.getfield 15, 3) := by decide +kernel
theorem dX0_becomeWithout_25 : decode cX0_becomeWithout 25 = .ok (.iload_n 3, 1) := by decide +kernel
theorem dX0_becomeWithout_26 : decode cX0_becomeWithout 26 = .ok (.iaload, 1) := by decide +kernel
theorem dX0_becomeWithout_27 : decode cX0_becomeWithout 27 = .ok (.aload_n 1, 1) := by decide +kernel
theorem dX0_becomeWithout_28 : decode cX0_becomeWithout 28 = .ok (.getfield 19, 3) := by decide +kernel
theorem dX0_becomeWithout_31 : decode cX0_becomeWithout 31 = .ok (.iload_n 3, 1) := by decide +kernel
theorem dX0_becomeWithout_32 : decode cX0_becomeWithout 32 = .ok (.iaload, 1) := by decide +kernel
theorem dX0_becomeWithout_33 : decode cX0_becomeWithout 33 = .ok (.aload_n 1, 1) := by decide +kernel
theorem dX0_becomeWithout_34 : decode cX0_becomeWithout 34 = .ok (.getfield 22, 3) := by decide +kernel
theorem dX0_becomeWithout_37 : decode cX0_becomeWithout 37 = .ok (.iload_n 3, 1) := by decide +kernel
theorem dX0_becomeWithout_38 : decode cX0_becomeWithout 38 = .ok (.iaload, 1) := by decide +kernel
theorem dX0_becomeWithout_39 : decode cX0_becomeWithout 39 = .ok (.aload_n 1, 1) := by decide +kernel
theorem dX0_becomeWithout_40 : decode cX0_becomeWithout 40 = .ok (.getfield 25, 3) := by decide +kernel
theorem dX0_becomeWithout_43 : decode cX0_becomeWithout 43 = .ok (.iload_n 3, 1) := by decide +kernel
theorem dX0_becomeWithout_44 : decode cX0_becomeWithout 44 = .ok (.iaload, 1) := by decide +kernel
theorem dX0_becomeWithout_45 : decode cX0_becomeWithout 45 = .ok (.invokevirtual 42, 3) := by decide +kernel
theorem dX0_becomeWithout_48 : decode cX0_becomeWithout 48 = .ok (.pop, 1) := by decide +kernel
theorem dX0_becomeWithout_49 : decode cX0_becomeWithout 49 = .ok (.iinc 3 1, 3) := by decide +kernel
theorem dX0_becomeWithout_52 : decode cX0_becomeWithout 52 = .ok (.goto (-45), 3) := by decide +kernel
theorem dX0_becomeWithout_55 : decode cX0_becomeWithout 55 = .ok (.return_, 1) := by decide +kernel
theorem dX1_init_0 : decode cX1_init 0 = .ok (.aload_n 0, 1) := by decide +kernel
theorem dX1_init_1 : decode cX1_init 1 = .ok (.invokespecial 3, 3) := by decide +kernel
theorem dX1_init_4 : decode cX1_init 4 = .ok (.aload_n 0, 1) := by decide +kernel
theorem dX1_init_5 : decode cX1_init 5 = .ok (.iconst 0, 1) := by decide +kernel
theorem dX1_init_6 : decode cX1_init 6 = .ok (.putfield 9, 3) := by decide +kernel
theorem dX1_init_9 : decode cX1_init 9 = .ok (.aload_n 0, 1) := by decide +kernel
theorem dX1_init_10 : decode cX1_init 10 = .ok (.bipush 12, 2) := by decide +kernel
theorem dX1_init_12 : decode cX1_init 12 = .ok (.newarray .int, 2) := by decide +kernel
theorem dX1_init_14 : decode cX1_init 14 = .ok (.putfield 15, 3) := by decide +kernel
theorem dX1_init_17 : decode cX1_init 17 = .ok (.aload_n 0, 1) := by decide +kernel
theorem dX1_init_18 : decode cX1_init 18 = .ok (.bipush 12, 2) := by decide +kernel
theorem dX1_init_20 : decode cX1_init 20 = .ok (.newarray .int, 2) := by decide +kernel
theorem dX1_init_22 : decode cX1_init 22 = .ok (.putfield 19, 3) := by decide +kernel
theorem dX1_init_25 : decode cX1_init 25 = .ok (.aload_n 0, 1) := by decide +kernel
theorem dX1_init_26 : decode cX1_init 26 = .ok (.bipush 12, 2) := by decide +kernel
theorem dX1_init_28 : decode cX1_init 28 = .ok (.newarray .int, 2) := by decide +kernel
theorem dX1_init_30 : decode cX1_init 30 = .ok (.putfield 22, 3) := by decide +kernel
theorem dX1_init_33 : decode cX1_init 33 = .ok (.return_, 1) := by decide +kernel
theorem dX1_append_0 : decode cX1_append 0 = .ok (.aload_n 0, 1) := by decide +kernel
theorem dX1_append_1 : decode cX1_append 1 = .ok (.getfield 15, 3) := by decide +kernel
theorem dX1_append_4 : decode cX1_append 4 = .ok (.aload_n 0, 1) := by decide +kernel
theorem dX1_append_5 : decode cX1_append 5 = .ok (.getfield 9, 3) := by decide +kernel
theorem dX1_append_8 : decode cX1_append 8 = .ok (.iload_n 1, 1) := by decide +kernel
theorem dX1_append_9 : decode cX1_append 9 = .ok (.iastore, 1) := by decide +kernel
theorem dX1_append_10 : decode cX1_append 10 = .ok (.aload_n 0, 1) := by decide +kernel
theorem dX1_append_11 : decode cX1_append 11 = .ok (.getfield 19, 3) := by decide +kernel
theorem dX1_append_14 : decode cX1_append 14 = .ok (.aload_n 0, 1) := by decide +kernel
theorem dX1_append_15 : decode cX1_append 15 = .ok (.getfield 9, 3) := by decide +kernel
theorem dX1_append_18 : decode cX1_append 18 = .ok (.iload_n 2, 1) := by decide +kernel
theorem dX1_append_19 : decode cX1_append 19 = .ok (.iastore, 1) := by decide +kernel
theorem dX1_append_20 : decode cX1_append 20 = .ok (.aload_n 0, 1) := by decide +kernel
theorem dX1_append_21 : decode cX1_append 21 = .ok (.getfield 22, 3) := by decide +kernel
theorem dX1_append_24 : decode cX1_append 24 = .ok (.aload_n 0, 1) := by decide +kernel
theorem dX1_append_25 : decode cX1_append 25 = .ok (.getfield 9, 3) := by decide +kernel
theorem dX1_append_28 : decode cX1_append 28 = .ok (.iload_n 3, 1) := by decide +kernel
theorem dX1_append_29 : decode cX1_append 29 = .ok (.iastore, 1) := by decide +kernel
theorem dX1_append_30 : decode cX1_append 30 = .ok (.aload_n 0, 1) := by decide +kernel
theorem dX1_append_31 : decode cX1_append 31 = .ok (.dup, 1) := by decide +kernel
theorem dX1_append_32 : decode cX1_append 32 = .ok (.getfield 9, 3) := by decide +kernel
theorem dX1_append_35 : decode cX1_append 35 = .ok (.iconst 1, 1) := by decide +kernel
theorem dX1_append_36 : decode cX1_append 36 = .ok (.iadd, 1) := by decide +kernel
theorem dX1_append_37 : decode cX1_append 37 = .ok (.putfield 9, 3) := by decide +kernel
theorem dX1_append_40 : decode cX1_append 40 = .ok (.aload_n 0, 1) := by decide +kernel
theorem dX1_append_41 : decode cX1_append 41 = .ok (.getfield 9, 3) := by decide +kernel
theorem dX1_append_44 : decode cX1_append 44 = .ok (.ireturn, 1) := by decide +kernel
theorem dX1_become_0 : decode cX1_become 0 = .ok (.aload_n 0, 1) := by decide +kernel
theorem dX1_become_1 : decode cX1_become 1 = .ok (.iconst 0, 1) := by decide +kernel
theorem dX1_become_2 : decode cX1_become 2 = .ok (.putfield 9, 3) := by decide +kernel
theorem dX1_become_5 : decode cX1_become 5 = .ok (.iconst 0, 1) := by decide +kernel
theorem dX1_become_6 : decode cX1_become 6 = .ok (.istore_n 2, 1) := by decide +kernel
theorem dX1_become_7 : decode cX1_become 7 = .ok (.iload_n 2, 1) := by decide +kernel
theorem dX1_become_8 : decode cX1_become 8 = .ok (.aload_n 1, 1) := by decide +kernel
theorem dX1_become_9 : decode cX1_become 9 = .ok (.getfield 9, 3) := by decide +kernel
theorem dX1_become_12 : decode cX1_become 12 = .ok (.if_icmp .ge 32, 3) := by decide +kernel
theorem dX1_become_15 : decode cX1_become 15 = .ok (.aload_n 0, 1) := by decide +kernel
theorem dX1_become_16 : decode cX1_become 16 = .ok (.aload_n 1, 1) := by decide +kernel
theorem dX1_become_17 : decode cX1_become 17 = .ok (.getfield 15, 3) := by decide +kernel
theorem dX1_become_20 : decode cX1_become 20 = .ok (.iload_n 2, 1) := by decide +kernel
theorem dX1_become_21 : decode cX1_become 21 = .ok (.iaload, 1) := by decide +kernel
theorem dX1_become_22 : decode cX1_become 22 = .ok (.aload_n 1, 1) := by decide +kernel
theorem dX1_become_23 : decode cX1_become 23 = .ok (.getfield 19, 3) := by decide +kernel
theorem dX1_become_26 : decode cX1_become 26 = .ok (.iload_n 2, 1) := by decide +kernel
theorem dX1_become_27 : decode cX1_become 27 = .ok (.iaload, 1) := by decide +kernel
theorem dX1_become_28 : decode cX1_become 28 = .ok (.aload_n 1, 1) := by decide +kernel
theorem dX1_become_29 : decode cX1_become 29 = .ok (.getfield 22, 3) := by decide +kernel
theorem dX1_become_32 : decode cX1_become 32 = .ok (.iload_n 2, 1) := by decide +kernel
theorem dX1_become_33 : decode cX1_become 33 = .ok (.iaload, 1) := by decide +kernel
theorem dX1_become_34 : decode cX1_become 34 = .ok (.invokevirtual 25, 3) := by decide +kernel
theorem dX1_become_37 : decode cX1_become 37 = .ok (.pop, 1) := by decide +kernel
theorem dX1_become_38 : decode cX1_become 38 = .ok (.iinc 2 1, 3) := by decide +kernel
theorem dX1_become_41 : decode cX1_become 41 = .ok (.goto (-34), 3) := by decide +kernel
theorem dX1_become_44 : decode cX1_become 44 = .ok (.return_, 1) := by decide +kernel
theorem dX1_sureLiars_0 : decode cX1_sureLiars 0 = .ok (.iconst 0, 1) := by decide +kernel
theorem dX1_sureLiars_1 : decode cX1_sureLiars 1 = .ok (.istore_n 1, 1) := by decide +kernel
theorem dX1_sureLiars_2 : decode cX1_sureLiars 2 = .ok (.iconst 0, 1) := by decide +kernel
theorem dX1_sureLiars_3 : decode cX1_sureLiars 3 = .ok (.istore_n 2, 1) := by decide +kernel
theorem dX1_sureLiars_4 : decode cX1_sureLiars 4 = .ok (.iconst 0, 1) := by decide +kernel
theorem dX1_sureLiars_5 : decode cX1_sureLiars 5 = .ok (.istore_n 3, 1) := by decide +kernel
theorem dX1_sureLiars_6 : decode cX1_sureLiars 6 = .ok (.iload_n 3, 1) := by decide +kernel
theorem dX1_sureLiars_7 : decode cX1_sureLiars 7 = .ok (.aload_n 0, 1) := by decide +kernel
theorem dX1_sureLiars_8 : decode cX1_sureLiars 8 = .ok (.getfield 9, 3) := by decide +kernel
theorem dX1_sureLiars_11 : decode cX1_sureLiars 11 = .ok (.if_icmp .ge 43, 3) := by decide +kernel
theorem dX1_sureLiars_14 : decode cX1_sureLiars 14 = .ok (.aload_n 0, 1) := by decide +kernel
theorem dX1_sureLiars_15 : decode cX1_sureLiars 15 = .ok (.getfield 22, 3) := by decide +kernel
theorem dX1_sureLiars_18 : decode cX1_sureLiars 18 = .ok (.iload_n 3, 1) := by decide +kernel
theorem dX1_sureLiars_19 : decode cX1_sureLiars 19 = .ok (.iaload, 1) := by decide +kernel
theorem dX1_sureLiars_20 : decode cX1_sureLiars 20 = .ok (.ifCond .ne 17, 3) := by decide +kernel
theorem dX1_sureLiars_23 : decode cX1_sureLiars 23 = .ok (.iload_n 1, 1) := by decide +kernel
theorem dX1_sureLiars_24 : decode cX1_sureLiars 24 = .ok (.iconst 1, 1) := by decide +kernel
theorem dX1_sureLiars_25 : decode cX1_sureLiars 25 = .ok (.aload_n 0, 1) := by decide +kernel
theorem dX1_sureLiars_26 : decode cX1_sureLiars 26 = .ok (.getfield 15, 3) := by decide +kernel
theorem dX1_sureLiars_29 : decode cX1_sureLiars 29 = .ok (.iload_n 3, 1) := by decide +kernel
theorem dX1_sureLiars_30 : decode cX1_sureLiars 30 = .ok (.iaload, 1) := by decide +kernel
theorem dX1_sureLiars_31 : decode cX1_sureLiars 31 = .ok (.ishl, 1) := by decide +kernel
theorem dX1_sureLiars_32 : decode cX1_sureLiars 32 = .ok (.ior, 1) := by decide +kernel
theorem dX1_sureLiars_33 : decode cX1_sureLiars 33 = .ok (.istore_n 1, 1) := by decide +kernel
theorem dX1_sureLiars_34 : decode cX1_sureLiars 34 = .ok (.goto 14, 3) := by decide +kernel
theorem dX1_sureLiars_37 : decode cX1_sureLiars 37 = .ok (.iload_n 2, 1) := by decide +kernel
theorem dX1_sureLiars_38 : decode cX1_sureLiars 38 = .ok (.iconst 1, 1) := by decide +kernel
theorem dX1_sureLiars_39 : decode cX1_sureLiars 39 = .ok (.aload_n 0, 1) := by decide +kernel
theorem dX1_sureLiars_40 : decode cX1_sureLiars 40 = .ok (.getfield 15, 3) := by decide +kernel
theorem dX1_sureLiars_43 : decode cX1_sureLiars 43 = .ok (.iload_n 3, 1) := by decide +kernel
theorem dX1_sureLiars_44 : decode cX1_sureLiars 44 = .ok (.iaload, 1) := by decide +kernel
theorem dX1_sureLiars_45 : decode cX1_sureLiars 45 = .ok (.ishl, 1) := by decide +kernel
theorem dX1_sureLiars_46 : decode cX1_sureLiars 46 = .ok (.ior, 1) := by decide +kernel
theorem dX1_sureLiars_47 : decode cX1_sureLiars 47 = .ok (.istore_n 2, 1) := by decide +kernel
theorem dX1_sureLiars_48 : decode cX1_sureLiars 48 = .ok (.iinc 3 1, 3) := by decide +kernel
theorem dX1_sureLiars_51 : decode cX1_sureLiars 51 = .ok (.goto (-45), 3) := by decide +kernel
theorem dX1_sureLiars_54 : decode cX1_sureLiars 54 = .ok (.iload_n 1, 1) := by decide +kernel
theorem dX1_sureLiars_55 : decode cX1_sureLiars 55 = .ok (.iload_n 2, 1) := by decide +kernel
theorem dX1_sureLiars_56 : decode cX1_sureLiars 56 = .ok (.iand, 1) := by decide +kernel
theorem dX1_sureLiars_57 : decode cX1_sureLiars 57 = .ok (.ireturn, 1) := by decide +kernel
theorem dX1_pairToAsk_0 : decode cX1_pairToAsk 0 = .ok (.aload_n 0, 1) := by decide +kernel
theorem dX1_pairToAsk_1 : decode cX1_pairToAsk 1 = .ok (.invokevirtual 29, 3) := by decide +kernel
theorem dX1_pairToAsk_4 : decode cX1_pairToAsk 4 = .ok (.istore_n 2, 1) := by decide +kernel
theorem dX1_pairToAsk_5 : decode cX1_pairToAsk 5 = .ok (.bipush 13, 2) := by decide +kernel
theorem dX1_pairToAsk_7 : decode cX1_pairToAsk 7 = .ok (.istore_n 3, 1) := by decide +kernel
theorem dX1_pairToAsk_8 : decode cX1_pairToAsk 8 = .ok (.bipush (-4), 2) := by decide +kernel
theorem dX1_pairToAsk_10 : decode cX1_pairToAsk 10 = .ok (.istore 4, 2) := by decide +kernel
theorem dX1_pairToAsk_12 : decode cX1_pairToAsk 12 = .ok (.iconst 0, 1) := by decide +kernel
theorem dX1_pairToAsk_13 : decode cX1_pairToAsk 13 = .ok (.istore 5, 2) := by decide +kernel
theorem dX1_pairToAsk_15 : decode cX1_pairToAsk 15 = .ok (.iload 5, 2) := by decide +kernel
theorem dX1_pairToAsk_17 : decode cX1_pairToAsk 17 = .ok (.iload_n 1, 1) := by decide +kernel
theorem dX1_pairToAsk_18 : decode cX1_pairToAsk 18 = .ok (.if_icmp .ge 64, 3) := by decide +kernel
theorem dX1_pairToAsk_21 : decode cX1_pairToAsk 21 = .ok (.aload_n 0, 1) := by decide +kernel
theorem dX1_pairToAsk_22 : decode cX1_pairToAsk 22 = .ok (.iload 5, 2) := by decide +kernel
theorem dX1_pairToAsk_24 : decode cX1_pairToAsk 24 = .ok (.invokevirtual 33, 3) := by decide +kernel
theorem dX1_pairToAsk_27 : decode cX1_pairToAsk 27 = .ok (.istore 6, 2) := by decide +kernel
theorem dX1_pairToAsk_29 : decode cX1_pairToAsk 29 = .ok (.aload_n 0, 1) := by decide +kernel
theorem dX1_pairToAsk_30 : decode cX1_pairToAsk 30 = .ok (.iload 5, 2) := by decide +kernel
theorem dX1_pairToAsk_32 : decode cX1_pairToAsk 32 = .ok (.iload_n 1, 1) := by decide +kernel
theorem dX1_pairToAsk_33 : decode cX1_pairToAsk 33 = .ok (.invokevirtual 37, 3) := by decide +kernel
theorem dX1_pairToAsk_36 : decode cX1_pairToAsk 36 = .ok (.istore 7, 2) := by decide +kernel
theorem dX1_pairToAsk_38 : decode cX1_pairToAsk 38 = .ok (.iload 6, 2) := by decide +kernel
theorem dX1_pairToAsk_40 : decode cX1_pairToAsk 40 = .ok (.ifCond .le 36, 3) := by decide +kernel
theorem dX1_pairToAsk_43 : decode cX1_pairToAsk 43 = .ok (.iload 6, 2) := by decide +kernel
theorem dX1_pairToAsk_45 : decode cX1_pairToAsk 45 = .ok (.iload_n 3, 1) := by decide +kernel
theorem dX1_pairToAsk_46 : decode cX1_pairToAsk 46 = .ok (.if_icmp .ge 30, 3) := by decide +kernel
theorem dX1_pairToAsk_49 : decode cX1_pairToAsk 49 = .ok (.iload_n 2, 1) := by decide +kernel
theorem dX1_pairToAsk_50 : decode cX1_pairToAsk 50 = .ok (.iload 5, 2) := by decide +kernel
theorem dX1_pairToAsk_52 : decode cX1_pairToAsk 52 = .ok (.ishr, 1) := by decide +kernel
theorem dX1_pairToAsk_53 : decode cX1_pairToAsk 53 = .ok (.iconst 1, 1) := by decide +kernel
theorem dX1_pairToAsk_54 : decode cX1_pairToAsk 54 = .ok (.iand, 1) := by decide +kernel
theorem dX1_pairToAsk_55 : decode cX1_pairToAsk 55 = .ok (.ifCond .ne 21, 3) := by decide +kernel
theorem dX1_pairToAsk_58 : decode cX1_pairToAsk 58 = .ok (.iload 7, 2) := by decide +kernel
theorem dX1_pairToAsk_60 : decode cX1_pairToAsk 60 = .ok (.ifCond .lt 16, 3) := by decide +kernel
theorem dX1_pairToAsk_63 : decode cX1_pairToAsk 63 = .ok (.iload 6, 2) := by decide +kernel
theorem dX1_pairToAsk_65 : decode cX1_pairToAsk 65 = .ok (.istore_n 3, 1) := by decide +kernel
theorem dX1_pairToAsk_66 : decode cX1_pairToAsk 66 = .ok (.bipush 10, 2) := by decide +kernel
theorem dX1_pairToAsk_68 : decode cX1_pairToAsk 68 = .ok (.iload 5, 2) := by decide +kernel
theorem dX1_pairToAsk_70 : decode cX1_pairToAsk 70 = .ok (.imul, 1) := by decide +kernel
theorem dX1_pairToAsk_71 : decode cX1_pairToAsk 71 = .ok (.iload 7, 2) := by decide +kernel
theorem dX1_pairToAsk_73 : decode cX1_pairToAsk 73 = .ok (.iadd, 1) := by decide +kernel
theorem dX1_pairToAsk_74 : decode cX1_pairToAsk 74 = .ok (.istore 4, 2) := by decide +kernel
theorem dX1_pairToAsk_76 : decode cX1_pairToAsk 76 = .ok (.iinc 5 1, 3) := by decide +kernel
theorem dX1_pairToAsk_79 : decode cX1_pairToAsk 79 = .ok (.goto (-64), 3) := by decide +kernel
theorem dX1_pairToAsk_82 : decode cX1_pairToAsk 82 = .ok (.iload 4, 2) := by decide +kernel
theorem dX1_pairToAsk_84 : decode cX1_pairToAsk 84 = .ok (.ireturn, 1) := by decide +kernel
theorem dX1_logsOf_0 : decode cX1_logsOf 0 = .ok (.iconst 0, 1) := by decide +kernel
theorem dX1_logsOf_1 : decode cX1_logsOf 1 = .ok (.istore_n 2, 1) := by decide +kernel
theorem dX1_logsOf_2 : decode cX1_logsOf 2 = .ok (.iconst 0, 1) := by decide +kernel
theorem dX1_logsOf_3 : decode cX1_logsOf 3 = .ok (.istore_n 3, 1) := by decide +kernel
theorem dX1_logsOf_4 : decode cX1_logsOf 4 = .ok (.iload_n 3, 1) := by decide +kernel
theorem dX1_logsOf_5 : decode cX1_logsOf 5 = .ok (.aload_n 0, 1) := by decide +kernel
theorem dX1_logsOf_6 : decode cX1_logsOf 6 = .ok (.getfield 9, 3) := by decide +kernel
theorem dX1_logsOf_9 : decode cX1_logsOf 9 = .ok (.if_icmp .ge 22, 3) := by decide +kernel
theorem dX1_logsOf_12 : decode cX1_logsOf 12 = .ok (.aload_n 0, 1) := by decide +kernel
theorem dX1_logsOf_13 : decode cX1_logsOf 13 = .ok (.getfield 15, 3) := by decide +kernel
theorem dX1_logsOf_16 : decode cX1_logsOf 16 = .ok (.iload_n 3, 1) := by decide +kernel
theorem dX1_logsOf_17 : decode cX1_logsOf 17 = .ok (.iaload, 1) := by decide +kernel
theorem dX1_logsOf_18 : decode cX1_logsOf 18 = .ok (.iload_n 1, 1) := by decide +kernel
theorem dX1_logsOf_19 : decode cX1_logsOf 19 = .ok (.if_icmp .ne 6, 3) := by decide +kernel
theorem dX1_logsOf_22 : decode cX1_logsOf 22 = .ok (.iinc 2 1, 3) := by decide +kernel
theorem dX1_logsOf_25 : decode cX1_logsOf 25 = .ok (.iinc 3 1, 3) := by decide +kernel
theorem dX1_logsOf_28 : decode cX1_logsOf 28 = .ok (.goto (-24), 3) := by decide +kernel
theorem dX1_logsOf_31 : decode cX1_logsOf 31 = .ok (.iload_n 2, 1) := by decide +kernel
theorem dX1_logsOf_32 : decode cX1_logsOf 32 = .ok (.ireturn, 1) := by decide +kernel
theorem dX1_firstWithoutLog_0 : decode cX1_firstWithoutLog 0 = .ok (.iconst 0, 1) := by decide +kernel
theorem dX1_firstWithoutLog_1 : decode cX1_firstWithoutLog 1 = .ok (.istore_n 3, 1) := by decide +kernel
theorem dX1_firstWithoutLog_2 : decode cX1_firstWithoutLog 2 = .ok (.iload_n 3, 1) := by decide +kernel
theorem dX1_firstWithoutLog_3 : decode cX1_firstWithoutLog 3 = .ok (.iload_n 2, 1) := by decide +kernel
theorem dX1_firstWithoutLog_4 : decode cX1_firstWithoutLog 4 = .ok (.if_icmp .ge 25, 3) := by decide +kernel
theorem dX1_firstWithoutLog_7 : decode cX1_firstWithoutLog 7 = .ok (.iload_n 3, 1) := by decide +kernel
theorem dX1_firstWithoutLog_8 : decode cX1_firstWithoutLog 8 = .ok (.iload_n 1, 1) := by decide +kernel
theorem dX1_firstWithoutLog_9 : decode cX1_firstWithoutLog 9 = .ok (.if_icmp .eq 14, 3) := by decide +kernel
theorem dX1_firstWithoutLog_12 : decode cX1_firstWithoutLog 12 = .ok (.aload_n 0, 1) := by decide +kernel
theorem dX1_firstWithoutLog_13 : decode cX1_firstWithoutLog 13 = .ok (.iload_n 1, 1) := by decide +kernel
theorem dX1_firstWithoutLog_14 : decode cX1_firstWithoutLog 14 = .ok (.iload_n 3, 1) := by decide +kernel
theorem dX1_firstWithoutLog_15 : decode cX1_firstWithoutLog 15 = .ok (.invokevirtual 41, 3) := by decide +kernel
theorem dX1_firstWithoutLog_18 : decode cX1_firstWithoutLog 18 = .ok (.ifCond .ne 5, 3) := by decide +kernel
theorem dX1_firstWithoutLog_21 : decode cX1_firstWithoutLog 21 = .ok (.iload_n 3, 1) := by decide +kernel
theorem dX1_firstWithoutLog_22 : decode cX1_firstWithoutLog 22 = .ok (.ireturn, 1) := by decide +kernel
theorem dX1_firstWithoutLog_23 : decode cX1_firstWithoutLog 23 = .ok (.iinc 3 1, 3) := by decide +kernel
theorem dX1_firstWithoutLog_26 : decode cX1_firstWithoutLog 26 = .ok (.goto (-24), 3) := by decide +kernel
theorem dX1_firstWithoutLog_29 : decode cX1_firstWithoutLog 29 = .ok (.iconst (-1), 1) := by decide +kernel
theorem dX1_firstWithoutLog_30 : decode cX1_firstWithoutLog 30 = .ok (.ireturn, 1) := by decide +kernel
theorem dX1_hasPair_0 : decode cX1_hasPair 0 = .ok (.iconst 0, 1) := by decide +kernel
theorem dX1_hasPair_1 : decode cX1_hasPair 1 = .ok (.istore_n 3, 1) := by decide +kernel
theorem dX1_hasPair_2 : decode cX1_hasPair 2 = .ok (.iload_n 3, 1) := by decide +kernel
theorem dX1_hasPair_3 : decode cX1_hasPair 3 = .ok (.aload_n 0, 1) := by decide +kernel
theorem dX1_hasPair_4 : decode cX1_hasPair 4 = .ok (.getfield 9, 3) := by decide +kernel
theorem dX1_hasPair_7 : decode cX1_hasPair 7 = .ok (.if_icmp .ge 31, 3) := by decide +kernel
theorem dX1_hasPair_10 : decode cX1_hasPair 10 = .ok (.aload_n 0, 1) := by decide +kernel
theorem dX1_hasPair_11 : decode cX1_hasPair 11 = .ok (.getfield 15, 3) := by decide +kernel
theorem dX1_hasPair_14 : decode cX1_hasPair 14 = .ok (.iload_n 3, 1) := by decide +kernel
theorem dX1_hasPair_15 : decode cX1_hasPair 15 = .ok (.iaload, 1) := by decide +kernel
theorem dX1_hasPair_16 : decode cX1_hasPair 16 = .ok (.iload_n 1, 1) := by decide +kernel
theorem dX1_hasPair_17 : decode cX1_hasPair 17 = .ok (.if_icmp .ne 15, 3) := by decide +kernel
theorem dX1_hasPair_20 : decode cX1_hasPair 20 = .ok (.aload_n 0, 1) := by decide +kernel
theorem dX1_hasPair_21 : decode cX1_hasPair 21 = .ok (.getfield 19, 3) := by decide +kernel
theorem dX1_hasPair_24 : decode cX1_hasPair 24 = .ok (.iload_n 3, 1) := by decide +kernel
theorem dX1_hasPair_25 : decode cX1_hasPair 25 = .ok (.iaload, 1) := by decide +kernel
theorem dX1_hasPair_26 : decode cX1_hasPair 26 = .ok (.iload_n 2, 1) := by decide +kernel
theorem dX1_hasPair_27 : decode cX1_hasPair 27 = .ok (.if_icmp .ne 5, 3) := by decide +kernel
theorem dX1_hasPair_30 : decode cX1_hasPair 30 = .ok (.iconst 1, 1) := by decide +kernel
theorem dX1_hasPair_31 : decode cX1_hasPair 31 = .ok (.ireturn, 1) := by decide +kernel
theorem dX1_hasPair_32 : decode cX1_hasPair 32 = .ok (.iinc 3 1, 3) := by decide +kernel
theorem dX1_hasPair_35 : decode cX1_hasPair 35 = .ok (.goto (-33), 3) := by decide +kernel
theorem dX1_hasPair_38 : decode cX1_hasPair 38 = .ok (.iconst 0, 1) := by decide +kernel
theorem dX1_hasPair_39 : decode cX1_hasPair 39 = .ok (.ireturn, 1) := by decide +kernel
theorem dX2_init_0 : decode cX2_init 0 = .ok (.aload_n 0, 1) := by decide +kernel
theorem dX2_init_1 : decode cX2_init 1 = .ok (.invokespecial 3, 3) := by decide +kernel
theorem dX2_init_4 : decode cX2_init 4 = .ok (.aload_n 0, 1) := by decide +kernel
theorem dX2_init_5 : decode cX2_init 5 = .ok (.iconst 0, 1) := by decide +kernel
theorem dX2_init_6 : decode cX2_init 6 = .ok (.putfield 9, 3) := by decide +kernel
theorem dX2_init_9 : decode cX2_init 9 = .ok (.aload_n 0, 1) := by decide +kernel
theorem dX2_init_10 : decode cX2_init 10 = .ok (.iconst 0, 1) := by decide +kernel
theorem dX2_init_11 : decode cX2_init 11 = .ok (.putfield 15, 3) := by decide +kernel
theorem dX2_init_14 : decode cX2_init 14 = .ok (.aload_n 0, 1) := by decide +kernel
theorem dX2_init_15 : decode cX2_init 15 = .ok (.iconst 0, 1) := by decide +kernel
theorem dX2_init_16 : decode cX2_init 16 = .ok (.putfield 18, 3) := by decide +kernel
theorem dX2_init_19 : decode cX2_init 19 = .ok (.aload_n 0, 1) := by decide +kernel
theorem dX2_init_20 : decode cX2_init 20 = .ok (.iconst 1, 1) := by decide +kernel
theorem dX2_init_21 : decode cX2_init 21 = .ok (.putfield 21, 3) := by decide +kernel
theorem dX2_init_24 : decode cX2_init 24 = .ok (.aload_n 0, 1) := by decide +kernel
theorem dX2_init_25 : decode cX2_init 25 = .ok (.iconst 0, 1) := by decide +kernel
theorem dX2_init_26 : decode cX2_init 26 = .ok (.putfield 24, 3) := by decide +kernel
theorem dX2_init_29 : decode cX2_init 29 = .ok (.aload_n 0, 1) := by decide +kernel
theorem dX2_init_30 : decode cX2_init 30 = .ok (.iconst 0, 1) := by decide +kernel
theorem dX2_init_31 : decode cX2_init 31 = .ok (.putfield 27, 3) := by decide +kernel
theorem dX2_init_34 : decode cX2_init 34 = .ok (.aload_n 0, 1) := by decide +kernel
theorem dX2_init_35 : decode cX2_init 35 = .ok (.iconst 0, 1) := by decide +kernel
theorem dX2_init_36 : decode cX2_init 36 = .ok (.putfield 30, 3) := by decide +kernel
theorem dX2_init_39 : decode cX2_init 39 = .ok (.aload_n 0, 1) := by decide +kernel
theorem dX2_init_40 : decode cX2_init 40 = .ok (.bipush 9, 2) := by decide +kernel
theorem dX2_init_42 : decode cX2_init 42 = .ok (.newarray .int, 2) := by decide +kernel
theorem dX2_init_44 : decode cX2_init 44 = .ok (.putfield 34, 3) := by decide +kernel
theorem dX2_init_47 : decode cX2_init 47 = .ok (.aload_n 0, 1) := by decide +kernel
theorem dX2_init_48 : decode cX2_init 48 = .ok (.bipush 9, 2) := by decide +kernel
theorem dX2_init_50 : decode cX2_init 50 = .ok (.newarray .int, 2) := by decide +kernel
theorem dX2_init_52 : decode cX2_init 52 = .ok (.putfield 38, 3) := by decide +kernel
theorem dX2_init_55 : decode cX2_init 55 = .ok (.aload_n 0, 1) := by decide +kernel
theorem dX2_init_56 : decode cX2_init 56 = .ok (.bipush 9, 2) := by decide +kernel
theorem dX2_init_58 : decode cX2_init 58 = .ok (.newarray .int, 2) := by decide +kernel
theorem dX2_init_60 : decode cX2_init 60 = .ok (.putfield 41, 3) := by decide +kernel
theorem dX2_init_63 : decode cX2_init 63 = .ok (.aload_n 0, 1) := by decide +kernel
theorem dX2_init_64 : decode cX2_init 64 = .ok (.bipush 9, 2) := by decide +kernel
theorem dX2_init_66 : decode cX2_init 66 = .ok (.newarray .int, 2) := by decide +kernel
theorem dX2_init_68 : decode cX2_init 68 = .ok (.putfield 44, 3) := by decide +kernel
theorem dX2_init_71 : decode cX2_init 71 = .ok (.aload_n 0, 1) := by decide +kernel
theorem dX2_init_72 : decode cX2_init 72 = .ok (.bipush 9, 2) := by decide +kernel
theorem dX2_init_74 : decode cX2_init 74 = .ok (.newarray .int, 2) := by decide +kernel
theorem dX2_init_76 : decode cX2_init 76 = .ok (.putfield 47, 3) := by decide +kernel
theorem dX2_init_79 : decode cX2_init 79 = .ok (.aload_n 0, 1) := by decide +kernel
theorem dX2_init_80 : decode cX2_init 80 = .ok (.bipush 9, 2) := by decide +kernel
theorem dX2_init_82 : decode cX2_init 82 = .ok (.bipush 9, 2) := by decide +kernel
theorem dX2_init_84 : decode cX2_init 84 = .ok (.multianewarray 50 2, 4) := by decide +kernel
theorem dX2_init_88 : decode cX2_init 88 = .ok (.putfield 52, 3) := by decide +kernel
theorem dX2_init_91 : decode cX2_init 91 = .ok (.aload_n 0, 1) := by decide +kernel
theorem dX2_init_92 : decode cX2_init 92 = .ok (.iconst 2, 1) := by decide +kernel
theorem dX2_init_93 : decode cX2_init 93 = .ok (.bipush 9, 2) := by decide +kernel
theorem dX2_init_95 : decode cX2_init 95 = .ok (.multianewarray 50 2, 4) := by decide +kernel
theorem dX2_init_99 : decode cX2_init 99 = .ok (.putfield 55, 3) := by decide +kernel
theorem dX2_init_102 : decode cX2_init 102 = .ok (.aload_n 0, 1) := by decide +kernel
theorem dX2_init_103 : decode cX2_init 103 = .ok (.iconst 2, 1) := by decide +kernel
theorem dX2_init_104 : decode cX2_init 104 = .ok (.sipush 171, 3) := by decide +kernel
theorem dX2_init_107 : decode cX2_init 107 = .ok (.multianewarray 50 2, 4) := by decide +kernel
theorem dX2_init_111 : decode cX2_init 111 = .ok (.putfield 58, 3) := by decide +kernel
theorem dX2_init_114 : decode cX2_init 114 = .ok (.return_, 1) := by decide +kernel
theorem dX2_ringPlace_0 : decode cX2_ringPlace 0 = .ok (.iload_n 0, 1) := by decide +kernel
theorem dX2_ringPlace_1 : decode cX2_ringPlace 1 = .ok (.bipush 9, 2) := by decide +kernel
theorem dX2_ringPlace_3 : decode cX2_ringPlace 3 = .ok (.imul, 1) := by decide +kernel
theorem dX2_ringPlace_4 : decode cX2_ringPlace 4 = .ok (.iload_n 1, 1) := by decide +kernel
theorem dX2_ringPlace_5 : decode cX2_ringPlace 5 = .ok (.iadd, 1) := by decide +kernel
theorem dX2_ringPlace_6 : decode cX2_ringPlace 6 = .ok (.ireturn, 1) := by decide +kernel
theorem dX2_become_0 : decode cX2_become 0 = .ok (.aload_n 0, 1) := by decide +kernel
theorem dX2_become_1 : decode cX2_become 1 = .ok (.aload_n 1, 1) := by decide +kernel
theorem dX2_become_2 : decode cX2_become 2 = .ok (.getfield 9, 3) := by decide +kernel
theorem dX2_become_5 : decode cX2_become 5 = .ok (.putfield 9, 3) := by decide +kernel
theorem dX2_become_8 : decode cX2_become 8 = .ok (.aload_n 0, 1) := by decide +kernel
theorem dX2_become_9 : decode cX2_become 9 = .ok (.aload_n 1, 1) := by decide +kernel
theorem dX2_become_10 : decode cX2_become 10 = .ok (.getfield 15, 3) := by decide +kernel
theorem dX2_become_13 : decode cX2_become 13 = .ok (.putfield 15, 3) := by decide +kernel
theorem dX2_become_16 : decode cX2_become 16 = .ok (.aload_n 0, 1) := by decide +kernel
theorem dX2_become_17 : decode cX2_become 17 = .ok (.aload_n 1, 1) := by decide +kernel
theorem dX2_become_18 : decode cX2_become 18 = .ok (.getfield 18, 3) := by decide +kernel
theorem dX2_become_21 : decode cX2_become 21 = .ok (.putfield 18, 3) := by decide +kernel
theorem dX2_become_24 : decode cX2_become 24 = .ok (.aload_n 0, 1) := by decide +kernel
theorem dX2_become_25 : decode cX2_become 25 = .ok (.aload_n 1, 1) := by decide +kernel
theorem dX2_become_26 : decode cX2_become 26 = .ok (.getfield 21, 3) := by decide +kernel
theorem dX2_become_29 : decode cX2_become 29 = .ok (.putfield 21, 3) := by decide +kernel
theorem dX2_become_32 : decode cX2_become 32 = .ok (.aload_n 0, 1) := by decide +kernel
theorem dX2_become_33 : decode cX2_become 33 = .ok (.aload_n 1, 1) := by decide +kernel
theorem dX2_become_34 : decode cX2_become 34 = .ok (.getfield 24, 3) := by decide +kernel
theorem dX2_become_37 : decode cX2_become 37 = .ok (.putfield 24, 3) := by decide +kernel
theorem dX2_become_40 : decode cX2_become 40 = .ok (.aload_n 0, 1) := by decide +kernel
theorem dX2_become_41 : decode cX2_become 41 = .ok (.aload_n 1, 1) := by decide +kernel
theorem dX2_become_42 : decode cX2_become 42 = .ok (.getfield 27, 3) := by decide +kernel
theorem dX2_become_45 : decode cX2_become 45 = .ok (.putfield 27, 3) := by decide +kernel
theorem dX2_become_48 : decode cX2_become 48 = .ok (.aload_n 0, 1) := by decide +kernel
theorem dX2_become_49 : decode cX2_become 49 = .ok (.aload_n 1, 1) := by decide +kernel
theorem dX2_become_50 : decode cX2_become 50 = .ok (.getfield 30, 3) := by decide +kernel
theorem dX2_become_53 : decode cX2_become 53 = .ok (.putfield 30, 3) := by decide +kernel
theorem dX2_become_56 : decode cX2_become 56 = .ok (.aload_n 1, 1) := by decide +kernel
theorem dX2_become_57 : decode cX2_become 57 = .ok (.getfield 34, 3) := by decide +kernel
theorem dX2_become_60 : decode cX2_become 60 = .ok (.iconst 0, 1) := by decide +kernel
theorem dX2_become_61 : decode cX2_become 61 = .ok (.aload_n 0, 1) := by decide +kernel
theorem dX2_become_62 : decode cX2_become 62 = .ok (.getfield 34, 3) := by decide +kernel
theorem dX2_become_65 : decode cX2_become 65 = .ok (.iconst 0, 1) := by decide +kernel
theorem dX2_become_66 : decode cX2_become 66 = .ok (.bipush 9, 2) := by decide +kernel
theorem dX2_become_68 : decode cX2_become 68 = .ok (.invokestatic 61, 3) := by decide +kernel
theorem dX2_become_71 : decode cX2_become 71 = .ok (.aload_n 1, 1) := by decide +kernel
theorem dX2_become_72 : decode cX2_become 72 = .ok (.getfield 38, 3) := by decide +kernel
theorem dX2_become_75 : decode cX2_become 75 = .ok (.iconst 0, 1) := by decide +kernel
theorem dX2_become_76 : decode cX2_become 76 = .ok (.aload_n 0, 1) := by decide +kernel
theorem dX2_become_77 : decode cX2_become 77 = .ok (.getfield 38, 3) := by decide +kernel
theorem dX2_become_80 : decode cX2_become 80 = .ok (.iconst 0, 1) := by decide +kernel
theorem dX2_become_81 : decode cX2_become 81 = .ok (.bipush 9, 2) := by decide +kernel
theorem dX2_become_83 : decode cX2_become 83 = .ok (.invokestatic 61, 3) := by decide +kernel
theorem dX2_become_86 : decode cX2_become 86 = .ok (.aload_n 1, 1) := by decide +kernel
theorem dX2_become_87 : decode cX2_become 87 = .ok (.getfield 41, 3) := by decide +kernel
theorem dX2_become_90 : decode cX2_become 90 = .ok (.iconst 0, 1) := by decide +kernel
theorem dX2_become_91 : decode cX2_become 91 = .ok (.aload_n 0, 1) := by decide +kernel
theorem dX2_become_92 : decode cX2_become 92 = .ok (.getfield 41, 3) := by decide +kernel
theorem dX2_become_95 : decode cX2_become 95 = .ok (.iconst 0, 1) := by decide +kernel
theorem dX2_become_96 : decode cX2_become 96 = .ok (.bipush 9, 2) := by decide +kernel
theorem dX2_become_98 : decode cX2_become 98 = .ok (.invokestatic 61, 3) := by decide +kernel
theorem dX2_become_101 : decode cX2_become 101 = .ok (.aload_n 1, 1) := by decide +kernel
theorem dX2_become_102 : decode cX2_become 102 = .ok (.getfield 44, 3) := by decide +kernel
theorem dX2_become_105 : decode cX2_become 105 = .ok (.iconst 0, 1) := by decide +kernel
theorem dX2_become_106 : decode cX2_become 106 = .ok (.aload_n 0, 1) := by decide +kernel
theorem dX2_become_107 : decode cX2_become 107 = .ok (.getfield 44, 3) := by decide +kernel
theorem dX2_become_110 : decode cX2_become 110 = .ok (.iconst 0, 1) := by decide +kernel
theorem dX2_become_111 : decode cX2_become 111 = .ok (.bipush 9, 2) := by decide +kernel
theorem dX2_become_113 : decode cX2_become 113 = .ok (.invokestatic 61, 3) := by decide +kernel
theorem dX2_become_116 : decode cX2_become 116 = .ok (.aload_n 1, 1) := by decide +kernel
theorem dX2_become_117 : decode cX2_become 117 = .ok (.getfield 47, 3) := by decide +kernel
theorem dX2_become_120 : decode cX2_become 120 = .ok (.iconst 0, 1) := by decide +kernel
theorem dX2_become_121 : decode cX2_become 121 = .ok (.aload_n 0, 1) := by decide +kernel
theorem dX2_become_122 : decode cX2_become 122 = .ok (.getfield 47, 3) := by decide +kernel
theorem dX2_become_125 : decode cX2_become 125 = .ok (.iconst 0, 1) := by decide +kernel
theorem dX2_become_126 : decode cX2_become 126 = .ok (.bipush 9, 2) := by decide +kernel
theorem dX2_become_128 : decode cX2_become 128 = .ok (.invokestatic 61, 3) := by decide +kernel
theorem dX2_become_131 : decode cX2_become 131 = .ok (.iconst 0, 1) := by decide +kernel
theorem dX2_become_132 : decode cX2_become 132 = .ok (.istore_n 2, 1) := by decide +kernel
theorem dX2_become_133 : decode cX2_become 133 = .ok (.iload_n 2, 1) := by decide +kernel
theorem dX2_become_134 : decode cX2_become 134 = .ok (.bipush 9, 2) := by decide +kernel
theorem dX2_become_136 : decode cX2_become 136 = .ok (.if_icmp .ge 28, 3) := by decide +kernel
theorem dX2_become_139 : decode cX2_become 139 = .ok (.aload_n 1, 1) := by decide +kernel
theorem dX2_become_140 : decode cX2_become 140 = .ok (.getfield 52, 3) := by decide +kernel
theorem dX2_become_143 : decode cX2_become 143 = .ok (.iload_n 2, 1) := by decide +kernel
theorem dX2_become_144 : decode cX2_become 144 = .ok (.aaload, 1) := by decide +kernel
theorem dX2_become_145 : decode cX2_become 145 = .ok (.iconst 0, 1) := by decide +kernel
theorem dX2_become_146 : decode cX2_become 146 = .ok (.aload_n 0, 1) := by decide +kernel
theorem dX2_become_147 : decode cX2_become 147 = .ok (.getfield 52, 3) := by decide +kernel
theorem dX2_become_150 : decode cX2_become 150 = .ok (.iload_n 2, 1) := by decide +kernel
theorem dX2_become_151 : decode cX2_become 151 = .ok (.aaload, 1) := by decide +kernel
theorem dX2_become_152 : decode cX2_become 152 = .ok (.iconst 0, 1) := by decide +kernel
theorem dX2_become_153 : decode cX2_become 153 = .ok (.bipush 9, 2) := by decide +kernel
theorem dX2_become_155 : decode cX2_become 155 = .ok (.invokestatic 61, 3) := by decide +kernel
theorem dX2_become_158 : decode cX2_become 158 = .ok (.iinc 2 1, 3) := by decide +kernel
theorem dX2_become_161 : decode cX2_become 161 = .ok (.goto (-28), 3) := by decide +kernel
theorem dX2_become_164 : decode cX2_become 164 = .ok (.iconst 0, 1) := by decide +kernel
theorem dX2_become_165 : decode cX2_become 165 = .ok (.istore_n 2, 1) := by decide +kernel
theorem dX2_become_166 : decode cX2_become 166 = .ok (.iload_n 2, 1) := by decide +kernel
theorem dX2_become_167 : decode cX2_become 167 = .ok (.iconst 1, 1) := by decide +kernel
theorem dX2_become_168 : decode cX2_become 168 = .ok (.if_icmp .gt 48, 3) := by decide +kernel
theorem dX2_become_171 : decode cX2_become 171 = .ok (.aload_n 1, 1) := by decide +kernel
theorem dX2_become_172 : decode cX2_become 172 = .ok (.getfield 55, 3) := by decide +kernel
theorem dX2_become_175 : decode cX2_become 175 = .ok (.iload_n 2, 1) := by decide +kernel
theorem dX2_become_176 : decode cX2_become 176 = .ok (.aaload, 1) := by decide +kernel
theorem dX2_become_177 : decode cX2_become 177 = .ok (.iconst 0, 1) := by decide +kernel
theorem dX2_become_178 : decode cX2_become 178 = .ok (.aload_n 0, 1) := by decide +kernel
theorem dX2_become_179 : decode cX2_become 179 = .ok (.getfield 55, 3) := by decide +kernel
theorem dX2_become_182 : decode cX2_become 182 = .ok (.iload_n 2, 1) := by decide +kernel
theorem dX2_become_183 : decode cX2_become 183 = .ok (.aaload, 1) := by decide +kernel
theorem dX2_become_184 : decode cX2_become 184 = .ok (.iconst 0, 1) := by decide +kernel
theorem dX2_become_185 : decode cX2_become 185 = .ok (.bipush 9, 2) := by decide +kernel
theorem dX2_become_187 : decode cX2_become 187 = .ok (.invokestatic 61, 3) := by decide +kernel
theorem dX2_become_190 : decode cX2_become 190 = .ok (.aload_n 1, 1) := by decide +kernel
theorem dX2_become_191 : decode cX2_become 191 = .ok (.getfield 58, 3) := by decide +kernel
theorem dX2_become_194 : decode cX2_become 194 = .ok (.iload_n 2, 1) := by decide +kernel
theorem dX2_become_195 : decode cX2_become 195 = .ok (.aaload, 1) := by decide +kernel
theorem dX2_become_196 : decode cX2_become 196 = .ok (.iconst 0, 1) := by decide +kernel
theorem dX2_become_197 : decode cX2_become 197 = .ok (.aload_n 0, 1) := by decide +kernel
theorem dX2_become_198 : decode cX2_become 198 = .ok (.getfield 58, 3) := by decide +kernel
theorem dX2_become_201 : decode cX2_become 201 = .ok (.iload_n 2, 1) := by decide +kernel
theorem dX2_become_202 : decode cX2_become 202 = .ok (.aaload, 1) := by decide +kernel
theorem dX2_become_203 : decode cX2_become 203 = .ok (.iconst 0, 1) := by decide +kernel
theorem dX2_become_204 : decode cX2_become 204 = .ok (.sipush 171, 3) := by decide +kernel
theorem dX2_become_207 : decode cX2_become 207 = .ok (.invokestatic 61, 3) := by decide +kernel
theorem dX2_become_210 : decode cX2_become 210 = .ok (.iinc 2 1, 3) := by decide +kernel
theorem dX2_become_213 : decode cX2_become 213 = .ok (.goto (-47), 3) := by decide +kernel
theorem dX2_become_216 : decode cX2_become 216 = .ok (.return_, 1) := by decide +kernel
theorem dX2_beginAnew_0 : decode cX2_beginAnew 0 = .ok (.aload_n 0, 1) := by decide +kernel
theorem dX2_beginAnew_1 : decode cX2_beginAnew 1 = .ok (.iconst 0, 1) := by decide +kernel
theorem dX2_beginAnew_2 : decode cX2_beginAnew 2 = .ok (.putfield 9, 3) := by decide +kernel
theorem dX2_beginAnew_5 : decode cX2_beginAnew 5 = .ok (.aload_n 0, 1) := by decide +kernel
theorem dX2_beginAnew_6 : decode cX2_beginAnew 6 = .ok (.iconst 0, 1) := by decide +kernel
theorem dX2_beginAnew_7 : decode cX2_beginAnew 7 = .ok (.putfield 15, 3) := by decide +kernel
theorem dX2_beginAnew_10 : decode cX2_beginAnew 10 = .ok (.aload_n 0, 1) := by decide +kernel
theorem dX2_beginAnew_11 : decode cX2_beginAnew 11 = .ok (.iconst 0, 1) := by decide +kernel
theorem dX2_beginAnew_12 : decode cX2_beginAnew 12 = .ok (.putfield 18, 3) := by decide +kernel
theorem dX2_beginAnew_15 : decode cX2_beginAnew 15 = .ok (.aload_n 0, 1) := by decide +kernel
theorem dX2_beginAnew_16 : decode cX2_beginAnew 16 = .ok (.getfield 58, 3) := by decide +kernel
theorem dX2_beginAnew_19 : decode cX2_beginAnew 19 = .ok (.iconst 0, 1) := by decide +kernel
theorem dX2_beginAnew_20 : decode cX2_beginAnew 20 = .ok (.aaload, 1) := by decide +kernel
theorem dX2_beginAnew_21 : decode cX2_beginAnew 21 = .ok (.iconst 0, 1) := by decide +kernel
theorem dX2_beginAnew_22 : decode cX2_beginAnew 22 = .ok (.invokestatic 67, 3) := by decide +kernel
theorem dX2_beginAnew_25 : decode cX2_beginAnew 25 = .ok (.aload_n 0, 1) := by decide +kernel
theorem dX2_beginAnew_26 : decode cX2_beginAnew 26 = .ok (.getfield 58, 3) := by decide +kernel
theorem dX2_beginAnew_29 : decode cX2_beginAnew 29 = .ok (.iconst 1, 1) := by decide +kernel
theorem dX2_beginAnew_30 : decode cX2_beginAnew 30 = .ok (.aaload, 1) := by decide +kernel
theorem dX2_beginAnew_31 : decode cX2_beginAnew 31 = .ok (.iconst 0, 1) := by decide +kernel
theorem dX2_beginAnew_32 : decode cX2_beginAnew 32 = .ok (.invokestatic 67, 3) := by decide +kernel
theorem dX2_beginAnew_35 : decode cX2_beginAnew 35 = .ok (.return_, 1) := by decide +kernel
theorem dX2_letIn_0 : decode cX2_letIn 0 = .ok (.aload_n 0, 1) := by decide +kernel
theorem dX2_letIn_1 : decode cX2_letIn 1 = .ok (.getfield 9, 3) := by decide +kernel
theorem dX2_letIn_4 : decode cX2_letIn 4 = .ok (.istore_n 3, 1) := by decide +kernel
theorem dX2_letIn_5 : decode cX2_letIn 5 = .ok (.aload_n 0, 1) := by decide +kernel
theorem dX2_letIn_6 : decode cX2_letIn 6 = .ok (.getfield 34, 3) := by decide +kernel
theorem dX2_letIn_9 : decode cX2_letIn 9 = .ok (.iload_n 3, 1) := by decide +kernel
theorem dX2_letIn_10 : decode cX2_letIn 10 = .ok (.iload_n 1, 1) := by decide +kernel
theorem dX2_letIn_11 : decode cX2_letIn 11 = .ok (.iastore, 1) := by decide +kernel
theorem dX2_letIn_12 : decode cX2_letIn 12 = .ok (.aload_n 0, 1) := by decide +kernel
theorem dX2_letIn_13 : decode cX2_letIn 13 = .ok (.getfield 38, 3) := by decide +kernel
theorem dX2_letIn_16 : decode cX2_letIn 16 = .ok (.iload_n 3, 1) := by decide +kernel
theorem dX2_letIn_17 : decode cX2_letIn 17 = .ok (.iconst 2, 1) := by decide +kernel
theorem dX2_letIn_18 : decode cX2_letIn 18 = .ok (.iastore, 1) := by decide +kernel
theorem dX2_letIn_19 : decode cX2_letIn 19 = .ok (.aload_n 0, 1) := by decide +kernel
theorem dX2_letIn_20 : decode cX2_letIn 20 = .ok (.getfield 41, 3) := by decide +kernel
theorem dX2_letIn_23 : decode cX2_letIn 23 = .ok (.iload_n 3, 1) := by decide +kernel
theorem dX2_letIn_24 : decode cX2_letIn 24 = .ok (.iconst 2, 1) := by decide +kernel
theorem dX2_letIn_25 : decode cX2_letIn 25 = .ok (.iastore, 1) := by decide +kernel
theorem dX2_letIn_26 : decode cX2_letIn 26 = .ok (.aload_n 0, 1) := by decide +kernel
theorem dX2_letIn_27 : decode cX2_letIn 27 = .ok (.getfield 44, 3) := by decide +kernel
theorem dX2_letIn_30 : decode cX2_letIn 30 = .ok (.iload_n 3, 1) := by decide +kernel
theorem dX2_letIn_31 : decode cX2_letIn 31 = .ok (.iconst 0, 1) := by decide +kernel
theorem dX2_letIn_32 : decode cX2_letIn 32 = .ok (.iastore, 1) := by decide +kernel
theorem dX2_letIn_33 : decode cX2_letIn 33 = .ok (.aload_n 0, 1) := by decide +kernel
theorem dX2_letIn_34 : decode cX2_letIn 34 = .ok (.getfield 47, 3) := by decide +kernel
theorem dX2_letIn_37 : decode cX2_letIn 37 = .ok (.iload_n 3, 1) := by decide +kernel
theorem dX2_letIn_38 : decode cX2_letIn 38 = .ok (.iconst 0, 1) := by decide +kernel
theorem dX2_letIn_39 : decode cX2_letIn 39 = .ok (.iastore, 1) := by decide +kernel
theorem dX2_letIn_40 : decode cX2_letIn 40 = .ok (.aload_n 0, 1) := by decide +kernel
theorem dX2_letIn_41 : decode cX2_letIn 41 = .ok (.getfield 55, 3) := by decide +kernel
theorem dX2_letIn_44 : decode cX2_letIn 44 = .ok (.iload_n 2, 1) := by decide +kernel
theorem dX2_letIn_45 : decode cX2_letIn 45 = .ok (.aaload, 1) := by decide +kernel
theorem dX2_letIn_46 : decode cX2_letIn 46 = .ok (.iload_n 3, 1) := by decide +kernel
theorem dX2_letIn_47 : decode cX2_letIn 47 = .ok (.iconst 1, 1) := by decide +kernel
theorem dX2_letIn_48 : decode cX2_letIn 48 = .ok (.iload_n 3, 1) := by decide +kernel
theorem dX2_letIn_49 : decode cX2_letIn 49 = .ok (.ishl, 1) := by decide +kernel
theorem dX2_letIn_50 : decode cX2_letIn 50 = .ok (.iastore, 1) := by decide +kernel
theorem dX2_letIn_51 : decode cX2_letIn 51 = .ok (.aload_n 0, 1) := by decide +kernel
theorem dX2_letIn_52 : decode cX2_letIn 52 = .ok (.getfield 55, 3) := by decide +kernel
theorem dX2_letIn_55 : decode cX2_letIn 55 = .ok (.iconst 1, 1) := by decide +kernel
theorem dX2_letIn_56 : decode cX2_letIn 56 = .ok (.iload_n 2, 1) := by decide +kernel
theorem dX2_letIn_57 : decode cX2_letIn 57 = .ok (.isub, 1) := by decide +kernel
theorem dX2_letIn_58 : decode cX2_letIn 58 = .ok (.aaload, 1) := by decide +kernel
theorem dX2_letIn_59 : decode cX2_letIn 59 = .ok (.iload_n 3, 1) := by decide +kernel
theorem dX2_letIn_60 : decode cX2_letIn 60 = .ok (.iconst 0, 1) := by decide +kernel
theorem dX2_letIn_61 : decode cX2_letIn 61 = .ok (.iastore, 1) := by decide +kernel
theorem dX2_letIn_62 : decode cX2_letIn 62 = .ok (.iconst 0, 1) := by decide +kernel
theorem dX2_letIn_63 : decode cX2_letIn 63 = .ok (.istore 4, 2) := by decide +kernel
theorem dX2_letIn_65 : decode cX2_letIn 65 = .ok (.iload 4, 2) := by decide +kernel
theorem dX2_letIn_67 : decode cX2_letIn 67 = .ok (.iload_n 3, 1) := by decide +kernel
theorem dX2_letIn_68 : decode cX2_letIn 68 = .ok (.if_icmp .ge 29, 3) := by decide +kernel
theorem dX2_letIn_71 : decode cX2_letIn 71 = .ok (.aload_n 0, 1) := by decide +kernel
theorem dX2_letIn_72 : decode cX2_letIn 72 = .ok (.getfield 52, 3) := by decide +kernel
theorem dX2_letIn_75 : decode cX2_letIn 75 = .ok (.iload_n 3, 1) := by decide +kernel
theorem dX2_letIn_76 : decode cX2_letIn 76 = .ok (.aaload, 1) := by decide +kernel
theorem dX2_letIn_77 : decode cX2_letIn 77 = .ok (.iload 4, 2) := by decide +kernel
theorem dX2_letIn_79 : decode cX2_letIn 79 = .ok (.iconst 1, 1) := by decide +kernel
theorem dX2_letIn_80 : decode cX2_letIn 80 = .ok (.iastore, 1) := by decide +kernel
theorem dX2_letIn_81 : decode cX2_letIn 81 = .ok (.aload_n 0, 1) := by decide +kernel
theorem dX2_letIn_82 : decode cX2_letIn 82 = .ok (.getfield 52, 3) := by decide +kernel
theorem dX2_letIn_85 : decode cX2_letIn 85 = .ok (.iload 4, 2) := by decide +kernel
theorem dX2_letIn_87 : decode cX2_letIn 87 = .ok (.aaload, 1) := by decide +kernel
theorem dX2_letIn_88 : decode cX2_letIn 88 = .ok (.iload_n 3, 1) := by decide +kernel
theorem dX2_letIn_89 : decode cX2_letIn 89 = .ok (.iconst 1, 1) := by decide +kernel
theorem dX2_letIn_90 : decode cX2_letIn 90 = .ok (.iastore, 1) := by decide +kernel
theorem dX2_letIn_91 : decode cX2_letIn 91 = .ok (.iinc 4 1, 3) := by decide +kernel
theorem dX2_letIn_94 : decode cX2_letIn 94 = .ok (.goto (-29), 3) := by decide +kernel
theorem dX2_letIn_97 : decode cX2_letIn 97 = .ok (.aload_n 0, 1) := by decide +kernel
theorem dX2_letIn_98 : decode cX2_letIn 98 = .ok (.dup, 1) := by decide +kernel
theorem dX2_letIn_99 : decode cX2_letIn 99 = .ok (.getfield 9, 3) := by decide +kernel
theorem dX2_letIn_102 : decode cX2_letIn 102 = .ok (.iconst 1, 1) := by decide +kernel
theorem dX2_letIn_103 : decode cX2_letIn 103 = .ok (.iadd, 1) := by decide +kernel
theorem dX2_letIn_104 : decode cX2_letIn 104 = .ok (.putfield 9, 3) := by decide +kernel
theorem dX2_letIn_107 : decode cX2_letIn 107 = .ok (.iload_n 3, 1) := by decide +kernel
theorem dX2_letIn_108 : decode cX2_letIn 108 = .ok (.ireturn, 1) := by decide +kernel
theorem dX2_takeOut_0 : decode cX2_takeOut 0 = .ok (.aload_n 0, 1) := by decide +kernel
theorem dX2_takeOut_1 : decode cX2_takeOut 1 = .ok (.dup, 1) := by decide +kernel
theorem dX2_takeOut_2 : decode cX2_takeOut 2 = .ok (.getfield 9, 3) := by decide +kernel
theorem dX2_takeOut_5 : decode cX2_takeOut 5 = .ok (.iconst 1, 1) := by decide +kernel
theorem dX2_takeOut_6 : decode cX2_takeOut 6 = .ok (.isub, 1) := by decide +kernel
theorem dX2_takeOut_7 : decode cX2_takeOut 7 = .ok (.putfield 9, 3) := by decide +kernel
theorem dX2_takeOut_10 : decode cX2_takeOut 10 = .ok (.iconst 1, 1) := by decide +kernel
theorem dX2_takeOut_11 : decode cX2_takeOut 11 = .ok (.aload_n 0, 1) := by decide +kernel
theorem dX2_takeOut_12 : decode cX2_takeOut 12 = .ok (.getfield 9, 3) := by decide +kernel
theorem dX2_takeOut_15 : decode cX2_takeOut 15 = .ok (.ishl, 1) := by decide +kernel
theorem dX2_takeOut_16 : decode cX2_takeOut 16 = .ok (.iconst (-1), 1) := by decide +kernel
theorem dX2_takeOut_17 : decode cX2_takeOut 17 = .ok (.ixor, 1) := by decide +kernel
theorem dX2_takeOut_18 : decode cX2_takeOut 18 = .ok (.istore_n 1, 1) := by decide +kernel
theorem dX2_takeOut_19 : decode cX2_takeOut 19 = .ok (.iconst 0, 1) := by decide +kernel
theorem dX2_takeOut_20 : decode cX2_takeOut 20 = .ok (.istore_n 2, 1) := by decide +kernel
theorem dX2_takeOut_21 : decode cX2_takeOut 21 = .ok (.iload_n 2, 1) := by decide +kernel
theorem dX2_takeOut_22 : decode cX2_takeOut 22 = .ok (.iconst 1, 1) := by decide +kernel
theorem dX2_takeOut_23 : decode cX2_takeOut 23 = .ok (.if_icmp .gt 92, 3) := by decide +kernel
theorem dX2_takeOut_26 : decode cX2_takeOut 26 = .ok (.iconst 0, 1) := by decide +kernel
theorem dX2_takeOut_27 : decode cX2_takeOut 27 = .ok (.istore_n 3, 1) := by decide +kernel
theorem dX2_takeOut_28 : decode cX2_takeOut 28 = .ok (.iload_n 3, 1) := by decide +kernel
theorem dX2_takeOut_29 : decode cX2_takeOut 29 = .ok (.bipush 9, 2) := by decide +kernel
theorem dX2_takeOut_31 : decode cX2_takeOut 31 = .ok (.if_icmp .ge 21, 3) := by decide +kernel
theorem dX2_takeOut_34 : decode cX2_takeOut 34 = .ok (.aload_n 0, 1) := by decide +kernel
theorem dX2_takeOut_35 : decode cX2_takeOut 35 = .ok (.getfield 55, 3) := by decide +kernel
theorem dX2_takeOut_38 : decode cX2_takeOut 38 = .ok (.iload_n 2, 1) := by decide +kernel
theorem dX2_takeOut_39 : decode cX2_takeOut 39 = .ok (.aaload, 1) := by decide +kernel
theorem dX2_takeOut_40 : decode cX2_takeOut 40 = .ok (.iload_n 3, 1) := by decide +kernel
theorem dX2_takeOut_41 : decode cX2_takeOut 41 = .ok (.dup2, 1) := by decide +kernel
theorem dX2_takeOut_42 : decode cX2_takeOut 42 = .ok (.iaload, 1) := by decide +kernel
theorem dX2_takeOut_43 : decode cX2_takeOut 43 = .ok (.iload_n 1, 1) := by decide +kernel
theorem dX2_takeOut_44 : decode cX2_takeOut 44 = .ok (.iand, 1) := by decide +kernel
theorem dX2_takeOut_45 : decode cX2_takeOut 45 = .ok (.iastore, 1) := by decide +kernel
theorem dX2_takeOut_46 : decode cX2_takeOut 46 = .ok (.iinc 3 1, 3) := by decide +kernel
theorem dX2_takeOut_49 : decode cX2_takeOut 49 = .ok (.goto (-21), 3) := by decide +kernel
theorem dX2_takeOut_52 : decode cX2_takeOut 52 = .ok (.iconst 0, 1) := by decide +kernel
theorem dX2_takeOut_53 : decode cX2_takeOut 53 = .ok (.istore_n 3, 1) := by decide +kernel
theorem dX2_takeOut_54 : decode cX2_takeOut 54 = .ok (.iload_n 3, 1) := by decide +kernel
theorem dX2_takeOut_55 : decode cX2_takeOut 55 = .ok (.sipush 171, 3) := by decide +kernel
theorem dX2_takeOut_58 : decode cX2_takeOut 58 = .ok (.if_icmp .ge 21, 3) := by decide +kernel
theorem dX2_takeOut_61 : decode cX2_takeOut 61 = .ok (.aload_n 0, 1) := by decide +kernel
theorem dX2_takeOut_62 : decode cX2_takeOut 62 = .ok (.getfield 58, 3) := by decide +kernel
theorem dX2_takeOut_65 : decode cX2_takeOut 65 = .ok (.iload_n 2, 1) := by decide +kernel
theorem dX2_takeOut_66 : decode cX2_takeOut 66 = .ok (.aaload, 1) := by decide +kernel
theorem dX2_takeOut_67 : decode cX2_takeOut 67 = .ok (.iload_n 3, 1) := by decide +kernel
theorem dX2_takeOut_68 : decode cX2_takeOut 68 = .ok (.dup2, 1) := by decide +kernel
theorem dX2_takeOut_69 : decode cX2_takeOut 69 = .ok (.iaload, 1) := by decide +kernel
theorem dX2_takeOut_70 : decode cX2_takeOut 70 = .ok (.iload_n 1, 1) := by decide +kernel
theorem dX2_takeOut_71 : decode cX2_takeOut 71 = .ok (.iand, 1) := by decide +kernel
theorem dX2_takeOut_72 : decode cX2_takeOut 72 = .ok (.iastore, 1) := by decide +kernel
theorem dX2_takeOut_73 : decode cX2_takeOut 73 = .ok (.iinc 3 1, 3) := by decide +kernel
theorem dX2_takeOut_76 : decode cX2_takeOut 76 = .ok (.goto (-22), 3) := by decide +kernel
theorem dX2_takeOut_79 : decode cX2_takeOut 79 = .ok (.iconst 0, 1) := by decide +kernel
theorem dX2_takeOut_80 : decode cX2_takeOut 80 = .ok (.istore_n 3, 1) := by decide +kernel
theorem dX2_takeOut_81 : decode cX2_takeOut 81 = .ok (.iload_n 3, 1) := by decide +kernel
theorem dX2_takeOut_82 : decode cX2_takeOut 82 = .ok (.bipush 19, 2) := by decide +kernel
theorem dX2_takeOut_84 : decode cX2_takeOut 84 = .ok (.if_icmp .ge 25, 3) := by decide +kernel
theorem dX2_takeOut_87 : decode cX2_takeOut 87 = .ok (.aload_n 0, 1) := by decide +kernel
theorem dX2_takeOut_88 : decode cX2_takeOut 88 = .ok (.getfield 58, 3) := by decide +kernel
theorem dX2_takeOut_91 : decode cX2_takeOut 91 = .ok (.iload_n 2, 1) := by decide +kernel
theorem dX2_takeOut_92 : decode cX2_takeOut 92 = .ok (.aaload, 1) := by decide +kernel
theorem dX2_takeOut_93 : decode cX2_takeOut 93 = .ok (.iload_n 3, 1) := by decide +kernel
theorem dX2_takeOut_94 : decode cX2_takeOut 94 = .ok (.aload_n 0, 1) := by decide +kernel
theorem dX2_takeOut_95 : decode cX2_takeOut 95 = .ok (.getfield 9, 3) := by decide +kernel
theorem dX2_takeOut_98 : decode cX2_takeOut 98 = .ok (.invokestatic 73, 3) := by decide +kernel
theorem dX2_takeOut_101 : decode cX2_takeOut 101 = .ok (.iconst 0, 1) := by decide +kernel
theorem dX2_takeOut_102 : decode cX2_takeOut 102 = .ok (.iastore, 1) := by decide +kernel
theorem dX2_takeOut_103 : decode cX2_takeOut 103 = .ok (.iinc 3 1, 3) := by decide +kernel
theorem dX2_takeOut_106 : decode cX2_takeOut 106 = .ok (.goto (-25), 3) := by decide +kernel
theorem dX2_takeOut_109 : decode cX2_takeOut 109 = .ok (.iinc 2 1, 3) := by decide +kernel
theorem dX2_takeOut_112 : decode cX2_takeOut 112 = .ok (.goto (-91), 3) := by decide +kernel
theorem dX2_takeOut_115 : decode cX2_takeOut 115 = .ok (.aload_n 0, 1) := by decide +kernel
theorem dX2_takeOut_116 : decode cX2_takeOut 116 = .ok (.getfield 9, 3) := by decide +kernel
theorem dX2_takeOut_119 : decode cX2_takeOut 119 = .ok (.ireturn, 1) := by decide +kernel
theorem dX2_isDark_0 : decode cX2_isDark 0 = .ok (.aload_n 0, 1) := by decide +kernel
theorem dX2_isDark_1 : decode cX2_isDark 1 = .ok (.getfield 27, 3) := by decide +kernel
theorem dX2_isDark_4 : decode cX2_isDark 4 = .ok (.iload_n 1, 1) := by decide +kernel
theorem dX2_isDark_5 : decode cX2_isDark 5 = .ok (.ishr, 1) := by decide +kernel
theorem dX2_isDark_6 : decode cX2_isDark 6 = .ok (.iconst 1, 1) := by decide +kernel
theorem dX2_isDark_7 : decode cX2_isDark 7 = .ok (.iand, 1) := by decide +kernel
theorem dX2_isDark_8 : decode cX2_isDark 8 = .ok (.ifCond .ne 29, 3) := by decide +kernel
theorem dX2_isDark_11 : decode cX2_isDark 11 = .ok (.aload_n 0, 1) := by decide +kernel
theorem dX2_isDark_12 : decode cX2_isDark 12 = .ok (.getfield 44, 3) := by decide +kernel
theorem dX2_isDark_15 : decode cX2_isDark 15 = .ok (.iload_n 1, 1) := by decide +kernel
theorem dX2_isDark_16 : decode cX2_isDark 16 = .ok (.iaload, 1) := by decide +kernel
theorem dX2_isDark_17 : decode cX2_isDark 17 = .ok (.aload_n 0, 1) := by decide +kernel
theorem dX2_isDark_18 : decode cX2_isDark 18 = .ok (.getfield 15, 3) := by decide +kernel
theorem dX2_isDark_21 : decode cX2_isDark 21 = .ok (.if_icmp .gt 20, 3) := by decide +kernel
theorem dX2_isDark_24 : decode cX2_isDark 24 = .ok (.aload_n 0, 1) := by decide +kernel
theorem dX2_isDark_25 : decode cX2_isDark 25 = .ok (.getfield 15, 3) := by decide +kernel
theorem dX2_isDark_28 : decode cX2_isDark 28 = .ok (.aload_n 0, 1) := by decide +kernel
theorem dX2_isDark_29 : decode cX2_isDark 29 = .ok (.getfield 47, 3) := by decide +kernel
theorem dX2_isDark_32 : decode cX2_isDark 32 = .ok (.iload_n 1, 1) := by decide +kernel
theorem dX2_isDark_33 : decode cX2_isDark 33 = .ok (.iaload, 1) := by decide +kernel
theorem dX2_isDark_34 : decode cX2_isDark 34 = .ok (.if_icmp .ge 7, 3) := by decide +kernel
theorem dX2_isDark_37 : decode cX2_isDark 37 = .ok (.iconst 1, 1) := by decide +kernel
theorem dX2_isDark_38 : decode cX2_isDark 38 = .ok (.goto 4, 3) := by decide +kernel
theorem dX2_isDark_41 : decode cX2_isDark 41 = .ok (.iconst 0, 1) := by decide +kernel
theorem dX2_isDark_42 : decode cX2_isDark 42 = .ok (.ireturn, 1) := by decide +kernel
theorem dX2_isTrue_0 : decode cX2_isTrue 0 = .ok (.aload_n 0, 1) := by decide +kernel
theorem dX2_isTrue_1 : decode cX2_isTrue 1 = .ok (.getfield 34, 3) := by decide +kernel
theorem dX2_isTrue_4 : decode cX2_isTrue 4 = .ok (.iload_n 1, 1) := by decide +kernel
theorem dX2_isTrue_5 : decode cX2_isTrue 5 = .ok (.iaload, 1) := by decide +kernel
theorem dX2_isTrue_6 : decode cX2_isTrue 6 = .ok (.ifCond .eq 13, 3) := by decide +kernel
theorem dX2_isTrue_9 : decode cX2_isTrue 9 = .ok (.aload_n 0, 1) := by decide +kernel
theorem dX2_isTrue_10 : decode cX2_isTrue 10 = .ok (.getfield 34, 3) := by decide +kernel
theorem dX2_isTrue_13 : decode cX2_isTrue 13 = .ok (.iload_n 1, 1) := by decide +kernel
theorem dX2_isTrue_14 : decode cX2_isTrue 14 = .ok (.iaload, 1) := by decide +kernel
theorem dX2_isTrue_15 : decode cX2_isTrue 15 = .ok (.iconst 3, 1) := by decide +kernel
theorem dX2_isTrue_16 : decode cX2_isTrue 16 = .ok (.if_icmp .ne 7, 3) := by decide +kernel
theorem dX2_isTrue_19 : decode cX2_isTrue 19 = .ok (.iconst 1, 1) := by decide +kernel
theorem dX2_isTrue_20 : decode cX2_isTrue 20 = .ok (.goto 4, 3) := by decide +kernel
theorem dX2_isTrue_23 : decode cX2_isTrue 23 = .ok (.iconst 0, 1) := by decide +kernel
theorem dX2_isTrue_24 : decode cX2_isTrue 24 = .ok (.ireturn, 1) := by decide +kernel
theorem dX2_believed_0 : decode cX2_believed 0 = .ok (.aload_n 0, 1) := by decide +kernel
theorem dX2_believed_1 : decode cX2_believed 1 = .ok (.getfield 55, 3) := by decide +kernel
theorem dX2_believed_4 : decode cX2_believed 4 = .ok (.iconst 1, 1) := by decide +kernel
theorem dX2_believed_5 : decode cX2_believed 5 = .ok (.aaload, 1) := by decide +kernel
theorem dX2_believed_6 : decode cX2_believed 6 = .ok (.iload_n 1, 1) := by decide +kernel
theorem dX2_believed_7 : decode cX2_believed 7 = .ok (.iaload, 1) := by decide +kernel
theorem dX2_believed_8 : decode cX2_believed 8 = .ok (.iload_n 1, 1) := by decide +kernel
theorem dX2_believed_9 : decode cX2_believed 9 = .ok (.ishr, 1) := by decide +kernel
theorem dX2_believed_10 : decode cX2_believed 10 = .ok (.iconst 1, 1) := by decide +kernel
theorem dX2_believed_11 : decode cX2_believed 11 = .ok (.iand, 1) := by decide +kernel
theorem dX2_believed_12 : decode cX2_believed 12 = .ok (.ireturn, 1) := by decide +kernel
theorem dX2_colourOf_0 : decode cX2_colourOf 0 = .ok (.aload_n 0, 1) := by decide +kernel
theorem dX2_colourOf_1 : decode cX2_colourOf 1 = .ok (.getfield 55, 3) := by decide +kernel
theorem dX2_colourOf_4 : decode cX2_colourOf 4 = .ok (.iconst 0, 1) := by decide +kernel
theorem dX2_colourOf_5 : decode cX2_colourOf 5 = .ok (.aaload, 1) := by decide +kernel
theorem dX2_colourOf_6 : decode cX2_colourOf 6 = .ok (.iload_n 1, 1) := by decide +kernel
theorem dX2_colourOf_7 : decode cX2_colourOf 7 = .ok (.iaload, 1) := by decide +kernel
theorem dX2_colourOf_8 : decode cX2_colourOf 8 = .ok (.aload_n 0, 1) := by decide +kernel
theorem dX2_colourOf_9 : decode cX2_colourOf 9 = .ok (.getfield 55, 3) := by decide +kernel
theorem dX2_colourOf_12 : decode cX2_colourOf 12 = .ok (.iconst 1, 1) := by decide +kernel
theorem dX2_colourOf_13 : decode cX2_colourOf 13 = .ok (.aaload, 1) := by decide +kernel
theorem dX2_colourOf_14 : decode cX2_colourOf 14 = .ok (.iload_n 1, 1) := by decide +kernel
theorem dX2_colourOf_15 : decode cX2_colourOf 15 = .ok (.iaload, 1) := by decide +kernel
theorem dX2_colourOf_16 : decode cX2_colourOf 16 = .ok (.iload_n 2, 1) := by decide +kernel
theorem dX2_colourOf_17 : decode cX2_colourOf 17 = .ok (.invokestatic 77, 3) := by decide +kernel
theorem dX2_colourOf_20 : decode cX2_colourOf 20 = .ok (.ireturn, 1) := by decide +kernel
theorem dX2_waiting_0 : decode cX2_waiting 0 = .ok (.aload_n 0, 1) := by decide +kernel
theorem dX2_waiting_1 : decode cX2_waiting 1 = .ok (.getfield 24, 3) := by decide +kernel
theorem dX2_waiting_4 : decode cX2_waiting 4 = .ok (.iload_n 3, 1) := by decide +kernel
theorem dX2_waiting_5 : decode cX2_waiting 5 = .ok (.iadd, 1) := by decide +kernel
theorem dX2_waiting_6 : decode cX2_waiting 6 = .ok (.bipush 19, 2) := by decide +kernel
theorem dX2_waiting_8 : decode cX2_waiting 8 = .ok (.irem, 1) := by decide +kernel
theorem dX2_waiting_9 : decode cX2_waiting 9 = .ok (.iload_n 1, 1) := by decide +kernel
theorem dX2_waiting_10 : decode cX2_waiting 10 = .ok (.invokestatic 73, 3) := by decide +kernel
theorem dX2_waiting_13 : decode cX2_waiting 13 = .ok (.istore 4, 2) := by decide +kernel
theorem dX2_waiting_15 : decode cX2_waiting 15 = .ok (.aload_n 0, 1) := by decide +kernel
theorem dX2_waiting_16 : decode cX2_waiting 16 = .ok (.getfield 58, 3) := by decide +kernel
theorem dX2_waiting_19 : decode cX2_waiting 19 = .ok (.iconst 0, 1) := by decide +kernel
theorem dX2_waiting_20 : decode cX2_waiting 20 = .ok (.aaload, 1) := by decide +kernel
theorem dX2_waiting_21 : decode cX2_waiting 21 = .ok (.iload 4, 2) := by decide +kernel
theorem dX2_waiting_23 : decode cX2_waiting 23 = .ok (.iaload, 1) := by decide +kernel
theorem dX2_waiting_24 : decode cX2_waiting 24 = .ok (.aload_n 0, 1) := by decide +kernel
theorem dX2_waiting_25 : decode cX2_waiting 25 = .ok (.getfield 58, 3) := by decide +kernel
theorem dX2_waiting_28 : decode cX2_waiting 28 = .ok (.iconst 1, 1) := by decide +kernel
theorem dX2_waiting_29 : decode cX2_waiting 29 = .ok (.aaload, 1) := by decide +kernel
theorem dX2_waiting_30 : decode cX2_waiting 30 = .ok (.iload 4, 2) := by decide +kernel
theorem dX2_waiting_32 : decode cX2_waiting 32 = .ok (.iaload, 1) := by decide +kernel
theorem dX2_waiting_33 : decode cX2_waiting 33 = .ok (.iload_n 2, 1) := by decide +kernel
theorem dX2_waiting_34 : decode cX2_waiting 34 = .ok (.invokestatic 77, 3) := by decide +kernel
theorem dX2_waiting_37 : decode cX2_waiting 37 = .ok (.ireturn, 1) := by decide +kernel
theorem dX2_bitColour_0 : decode cX2_bitColour 0 = .ok (.iload_n 0, 1) := by decide +kernel
theorem dX2_bitColour_1 : decode cX2_bitColour 1 = .ok (.iload_n 2, 1) := by decide +kernel
theorem dX2_bitColour_2 : decode cX2_bitColour 2 = .ok (.ishr, 1) := by decide +kernel
theorem dX2_bitColour_3 : decode cX2_bitColour 3 = .ok (.iconst 1, 1) := by decide +kernel
theorem dX2_bitColour_4 : decode cX2_bitColour 4 = .ok (.iand, 1) := by decide +kernel
theorem dX2_bitColour_5 : decode cX2_bitColour 5 = .ok (.ifCond .eq 5, 3) := by decide +kernel
theorem dX2_bitColour_8 : decode cX2_bitColour 8 = .ok (.iconst 0, 1) := by decide +kernel
theorem dX2_bitColour_9 : decode cX2_bitColour 9 = .ok (.ireturn, 1) := by decide +kernel
theorem dX2_bitColour_10 : decode cX2_bitColour 10 = .ok (.iload_n 1, 1) := by decide +kernel
theorem dX2_bitColour_11 : decode cX2_bitColour 11 = .ok (.iload_n 2, 1) := by decide +kernel
theorem dX2_bitColour_12 : decode cX2_bitColour 12 = .ok (.ishr, 1) := by decide +kernel
theorem dX2_bitColour_13 : decode cX2_bitColour 13 = .ok (.iconst 1, 1) := by decide +kernel
theorem dX2_bitColour_14 : decode cX2_bitColour 14 = .ok (.iand, 1) := by decide +kernel
theorem dX2_bitColour_15 : decode cX2_bitColour 15 = .ok (.ifCond .eq 7, 3) := by decide +kernel
theorem dX2_bitColour_18 : decode cX2_bitColour 18 = .ok (.iconst 1, 1) := by decide +kernel
theorem dX2_bitColour_19 : decode cX2_bitColour 19 = .ok (.goto 4, 3) := by decide +kernel
theorem dX2_bitColour_22 : decode cX2_bitColour 22 = .ok (.iconst 2, 1) := by decide +kernel
theorem dX2_bitColour_23 : decode cX2_bitColour 23 = .ok (.ireturn, 1) := by decide +kernel
theorem dX2_counted_0 : decode cX2_counted 0 = .ok (.iload_n 2, 1) := by decide +kernel
theorem dX2_counted_1 : decode cX2_counted 1 = .ok (.iconst 2, 1) := by decide +kernel
theorem dX2_counted_2 : decode cX2_counted 2 = .ok (.if_icmp .ne 23, 3) := by decide +kernel
theorem dX2_counted_5 : decode cX2_counted 5 = .ok (.aload_n 0, 1) := by decide +kernel
theorem dX2_counted_6 : decode cX2_counted 6 = .ok (.getfield 55, 3) := by decide +kernel
theorem dX2_counted_9 : decode cX2_counted 9 = .ok (.iconst 0, 1) := by decide +kernel
theorem dX2_counted_10 : decode cX2_counted 10 = .ok (.aaload, 1) := by decide +kernel
theorem dX2_counted_11 : decode cX2_counted 11 = .ok (.iload_n 1, 1) := by decide +kernel
theorem dX2_counted_12 : decode cX2_counted 12 = .ok (.iaload, 1) := by decide +kernel
theorem dX2_counted_13 : decode cX2_counted 13 = .ok (.aload_n 0, 1) := by decide +kernel
theorem dX2_counted_14 : decode cX2_counted 14 = .ok (.getfield 55, 3) := by decide +kernel
theorem dX2_counted_17 : decode cX2_counted 17 = .ok (.iconst 1, 1) := by decide +kernel
theorem dX2_counted_18 : decode cX2_counted 18 = .ok (.aaload, 1) := by decide +kernel
theorem dX2_counted_19 : decode cX2_counted 19 = .ok (.iload_n 1, 1) := by decide +kernel
theorem dX2_counted_20 : decode cX2_counted 20 = .ok (.iaload, 1) := by decide +kernel
theorem dX2_counted_21 : decode cX2_counted 21 = .ok (.ior, 1) := by decide +kernel
theorem dX2_counted_22 : decode cX2_counted 22 = .ok (.goto 11, 3) := by decide +kernel
theorem dX2_counted_25 : decode cX2_counted 25 = .ok (.aload_n 0, 1) := by decide +kernel
theorem dX2_counted_26 : decode cX2_counted 26 = .ok (.getfield 55, 3) := by decide +kernel
theorem dX2_counted_29 : decode cX2_counted 29 = .ok (.iload_n 2, 1) := by decide +kernel
theorem dX2_counted_30 : decode cX2_counted 30 = .ok (.aaload, 1) := by decide +kernel
theorem dX2_counted_31 : decode cX2_counted 31 = .ok (.iload_n 1, 1) := by decide +kernel
theorem dX2_counted_32 : decode cX2_counted 32 = .ok (.iaload, 1) := by decide +kernel
theorem dX2_counted_33 : decode cX2_counted 33 = .ok (.invokestatic 81, 3) := by decide +kernel
theorem dX2_counted_36 : decode cX2_counted 36 = .ok (.ireturn, 1) := by decide +kernel
theorem dX2_allWaiting_0 : decode cX2_allWaiting 0 = .ok (.iconst 0, 1) := by decide +kernel
theorem dX2_allWaiting_1 : decode cX2_allWaiting 1 = .ok (.istore_n 1, 1) := by decide +kernel
theorem dX2_allWaiting_2 : decode cX2_allWaiting 2 = .ok (.iconst 0, 1) := by decide +kernel
theorem dX2_allWaiting_3 : decode cX2_allWaiting 3 = .ok (.istore_n 2, 1) := by decide +kernel
theorem dX2_allWaiting_4 : decode cX2_allWaiting 4 = .ok (.iload_n 2, 1) := by decide +kernel
theorem dX2_allWaiting_5 : decode cX2_allWaiting 5 = .ok (.sipush 171, 3) := by decide +kernel
theorem dX2_allWaiting_8 : decode cX2_allWaiting 8 = .ok (.if_icmp .ge 35, 3) := by decide +kernel
theorem dX2_allWaiting_11 : decode cX2_allWaiting 11 = .ok (.iload_n 1, 1) := by decide +kernel
theorem dX2_allWaiting_12 : decode cX2_allWaiting 12 = .ok (.aload_n 0, 1) := by decide +kernel
theorem dX2_allWaiting_13 : decode cX2_allWaiting 13 = .ok (.getfield 58, 3) := by decide +kernel
theorem dX2_allWaiting_16 : decode cX2_allWaiting 16 = .ok (.iconst 0, 1) := by decide +kernel
theorem dX2_allWaiting_17 : decode cX2_allWaiting 17 = .ok (.aaload, 1) := by decide +kernel
theorem dX2_allWaiting_18 : decode cX2_allWaiting 18 = .ok (.iload_n 2, 1) := by decide +kernel
theorem dX2_allWaiting_19 : decode cX2_allWaiting 19 = .ok (.iaload, 1) := by decide +kernel
theorem dX2_allWaiting_20 : decode cX2_allWaiting 20 = .ok (.invokestatic 81, 3) := by decide +kernel
theorem dX2_allWaiting_23 : decode cX2_allWaiting 23 = .ok (.aload_n 0, 1) := by decide +kernel
theorem dX2_allWaiting_24 : decode cX2_allWaiting 24 = .ok (.getfield 58, 3) := by decide +kernel
theorem dX2_allWaiting_27 : decode cX2_allWaiting 27 = .ok (.iconst 1, 1) := by decide +kernel
theorem dX2_allWaiting_28 : decode cX2_allWaiting 28 = .ok (.aaload, 1) := by decide +kernel
theorem dX2_allWaiting_29 : decode cX2_allWaiting 29 = .ok (.iload_n 2, 1) := by decide +kernel
theorem dX2_allWaiting_30 : decode cX2_allWaiting 30 = .ok (.iaload, 1) := by decide +kernel
theorem dX2_allWaiting_31 : decode cX2_allWaiting 31 = .ok (.invokestatic 81, 3) := by decide +kernel
theorem dX2_allWaiting_34 : decode cX2_allWaiting 34 = .ok (.iadd, 1) := by decide +kernel
theorem dX2_allWaiting_35 : decode cX2_allWaiting 35 = .ok (.iadd, 1) := by decide +kernel
theorem dX2_allWaiting_36 : decode cX2_allWaiting 36 = .ok (.istore_n 1, 1) := by decide +kernel
theorem dX2_allWaiting_37 : decode cX2_allWaiting 37 = .ok (.iinc 2 1, 3) := by decide +kernel
theorem dX2_allWaiting_40 : decode cX2_allWaiting 40 = .ok (.goto (-36), 3) := by decide +kernel
theorem dX2_allWaiting_43 : decode cX2_allWaiting 43 = .ok (.iload_n 1, 1) := by decide +kernel
theorem dX2_allWaiting_44 : decode cX2_allWaiting 44 = .ok (.ireturn, 1) := by decide +kernel
theorem dX2_howManyShow_0 : decode cX2_howManyShow 0 = .ok (.iconst 0, 1) := by decide +kernel
theorem dX2_howManyShow_1 : decode cX2_howManyShow 1 = .ok (.istore_n 3, 1) := by decide +kernel
theorem dX2_howManyShow_2 : decode cX2_howManyShow 2 = .ok (.iconst 0, 1) := by decide +kernel
theorem dX2_howManyShow_3 : decode cX2_howManyShow 3 = .ok (.istore 4, 2) := by decide +kernel
theorem dX2_howManyShow_5 : decode cX2_howManyShow 5 = .ok (.iload 4, 2) := by decide +kernel
theorem dX2_howManyShow_7 : decode cX2_howManyShow 7 = .ok (.aload_n 0, 1) := by decide +kernel
theorem dX2_howManyShow_8 : decode cX2_howManyShow 8 = .ok (.getfield 9, 3) := by decide +kernel
theorem dX2_howManyShow_11 : decode cX2_howManyShow 11 = .ok (.if_icmp .ge 32, 3) := by decide +kernel
theorem dX2_howManyShow_14 : decode cX2_howManyShow 14 = .ok (.iload_n 1, 1) := by decide +kernel
theorem dX2_howManyShow_15 : decode cX2_howManyShow 15 = .ok (.iload 4, 2) := by decide +kernel
theorem dX2_howManyShow_17 : decode cX2_howManyShow 17 = .ok (.ishr, 1) := by decide +kernel
theorem dX2_howManyShow_18 : decode cX2_howManyShow 18 = .ok (.iconst 1, 1) := by decide +kernel
theorem dX2_howManyShow_19 : decode cX2_howManyShow 19 = .ok (.iand, 1) := by decide +kernel
theorem dX2_howManyShow_20 : decode cX2_howManyShow 20 = .ok (.ifCond .eq 17, 3) := by decide +kernel
theorem dX2_howManyShow_23 : decode cX2_howManyShow 23 = .ok (.aload_n 0, 1) := by decide +kernel
theorem dX2_howManyShow_24 : decode cX2_howManyShow 24 = .ok (.getfield 38, 3) := by decide +kernel
theorem dX2_howManyShow_27 : decode cX2_howManyShow 27 = .ok (.iload 4, 2) := by decide +kernel
theorem dX2_howManyShow_29 : decode cX2_howManyShow 29 = .ok (.iaload, 1) := by decide +kernel
theorem dX2_howManyShow_30 : decode cX2_howManyShow 30 = .ok (.iload_n 2, 1) := by decide +kernel
theorem dX2_howManyShow_31 : decode cX2_howManyShow 31 = .ok (.if_icmp .ne 6, 3) := by decide +kernel
theorem dX2_howManyShow_34 : decode cX2_howManyShow 34 = .ok (.iinc 3 1, 3) := by decide +kernel
theorem dX2_howManyShow_37 : decode cX2_howManyShow 37 = .ok (.iinc 4 1, 3) := by decide +kernel
theorem dX2_howManyShow_40 : decode cX2_howManyShow 40 = .ok (.goto (-35), 3) := by decide +kernel
theorem dX2_howManyShow_43 : decode cX2_howManyShow 43 = .ok (.iload_n 3, 1) := by decide +kernel
theorem dX2_howManyShow_44 : decode cX2_howManyShow 44 = .ok (.ireturn, 1) := by decide +kernel
theorem dX2_trueOnes_0 : decode cX2_trueOnes 0 = .ok (.iconst 0, 1) := by decide +kernel
theorem dX2_trueOnes_1 : decode cX2_trueOnes 1 = .ok (.istore_n 1, 1) := by decide +kernel
theorem dX2_trueOnes_2 : decode cX2_trueOnes 2 = .ok (.iconst 0, 1) := by decide +kernel
theorem dX2_trueOnes_3 : decode cX2_trueOnes 3 = .ok (.istore_n 2, 1) := by decide +kernel
theorem dX2_trueOnes_4 : decode cX2_trueOnes 4 = .ok (.iload_n 2, 1) := by decide +kernel
theorem dX2_trueOnes_5 : decode cX2_trueOnes 5 = .ok (.aload_n 0, 1) := by decide +kernel
theorem dX2_trueOnes_6 : decode cX2_trueOnes 6 = .ok (.getfield 9, 3) := by decide +kernel
theorem dX2_trueOnes_9 : decode cX2_trueOnes 9 = .ok (.if_icmp .ge 23, 3) := by decide +kernel
theorem dX2_trueOnes_12 : decode cX2_trueOnes 12 = .ok (.aload_n 0, 1) := by decide +kernel
theorem dX2_trueOnes_13 : decode cX2_trueOnes 13 = .ok (.iload_n 2, 1) := by decide +kernel
theorem dX2_trueOnes_14 : decode cX2_trueOnes 14 = .ok (.invokevirtual 87, 3) := by decide +kernel
theorem dX2_trueOnes_17 : decode cX2_trueOnes 17 = .ok (.ifCond .eq 9, 3) := by decide +kernel
theorem dX2_trueOnes_20 : decode cX2_trueOnes 20 = .ok (.iload_n 1, 1) := by decide +kernel
theorem dX2_trueOnes_21 : decode cX2_trueOnes 21 = .ok (.iconst 1, 1) := by decide +kernel
theorem dX2_trueOnes_22 : decode cX2_trueOnes 22 = .ok (.iload_n 2, 1) := by decide +kernel
theorem dX2_trueOnes_23 : decode cX2_trueOnes 23 = .ok (.ishl, 1) := by decide +kernel
theorem dX2_trueOnes_24 : decode cX2_trueOnes 24 = .ok (.ior, 1) := by decide +kernel
theorem dX2_trueOnes_25 : decode cX2_trueOnes 25 = .ok (.istore_n 1, 1) := by decide +kernel
theorem dX2_trueOnes_26 : decode cX2_trueOnes 26 = .ok (.iinc 2 1, 3) := by decide +kernel
theorem dX2_trueOnes_29 : decode cX2_trueOnes 29 = .ok (.goto (-25), 3) := by decide +kernel
theorem dX2_trueOnes_32 : decode cX2_trueOnes 32 = .ok (.iload_n 1, 1) := by decide +kernel
theorem dX2_trueOnes_33 : decode cX2_trueOnes 33 = .ok (.ireturn, 1) := by decide +kernel
theorem dX2_isDone_0 : decode cX2_isDone 0 = .ok (.aload_n 0, 1) := by decide +kernel
theorem dX2_isDone_1 : decode cX2_isDone 1 = .ok (.aload_n 0, 1) := by decide +kernel
theorem dX2_isDone_2 : decode cX2_isDone 2 = .ok (.invokevirtual 91, 3) := by decide +kernel
theorem dX2_isDone_5 : decode cX2_isDone 5 = .ok (.iload_n 1, 1) := by decide +kernel
theorem dX2_isDone_6 : decode cX2_isDone 6 = .ok (.iconst (-1), 1) := by decide +kernel
theorem dX2_isDone_7 : decode cX2_isDone 7 = .ok (.ixor, 1) := by decide +kernel
theorem dX2_isDone_8 : decode cX2_isDone 8 = .ok (.iand, 1) := by decide +kernel
theorem dX2_isDone_9 : decode cX2_isDone 9 = .ok (.iconst 2, 1) := by decide +kernel
theorem dX2_isDone_10 : decode cX2_isDone 10 = .ok (.invokevirtual 95, 3) := by decide +kernel
theorem dX2_isDone_13 : decode cX2_isDone 13 = .ok (.ifCond .ne 7, 3) := by decide +kernel
theorem dX2_isDone_16 : decode cX2_isDone 16 = .ok (.iconst 1, 1) := by decide +kernel
theorem dX2_isDone_17 : decode cX2_isDone 17 = .ok (.goto 4, 3) := by decide +kernel
theorem dX2_isDone_20 : decode cX2_isDone 20 = .ok (.iconst 0, 1) := by decide +kernel
theorem dX2_isDone_21 : decode cX2_isDone 21 = .ok (.ireturn, 1) := by decide +kernel
theorem dX2_isUnlike_0 : decode cX2_isUnlike 0 = .ok (.aload_n 0, 1) := by decide +kernel
theorem dX2_isUnlike_1 : decode cX2_isUnlike 1 = .ok (.invokevirtual 91, 3) := by decide +kernel
theorem dX2_isUnlike_4 : decode cX2_isUnlike 4 = .ok (.istore_n 1, 1) := by decide +kernel
theorem dX2_isUnlike_5 : decode cX2_isUnlike 5 = .ok (.aload_n 0, 1) := by decide +kernel
theorem dX2_isUnlike_6 : decode cX2_isUnlike 6 = .ok (.iload_n 1, 1) := by decide +kernel
theorem dX2_isUnlike_7 : decode cX2_isUnlike 7 = .ok (.iconst 0, 1) := by decide +kernel
theorem dX2_isUnlike_8 : decode cX2_isUnlike 8 = .ok (.invokevirtual 95, 3) := by decide +kernel
theorem dX2_isUnlike_11 : decode cX2_isUnlike 11 = .ok (.ifCond .le 16, 3) := by decide +kernel
theorem dX2_isUnlike_14 : decode cX2_isUnlike 14 = .ok (.aload_n 0, 1) := by decide +kernel
theorem dX2_isUnlike_15 : decode cX2_isUnlike 15 = .ok (.iload_n 1, 1) := by decide +kernel
theorem dX2_isUnlike_16 : decode cX2_isUnlike 16 = .ok (.iconst 1, 1) := by decide +kernel
theorem dX2_isUnlike_17 : decode cX2_isUnlike 17 = .ok (.invokevirtual 95, 3) := by decide +kernel
theorem dX2_isUnlike_20 : decode cX2_isUnlike 20 = .ok (.ifCond .le 7, 3) := by decide +kernel
theorem dX2_isUnlike_23 : decode cX2_isUnlike 23 = .ok (.iconst 1, 1) := by decide +kernel
theorem dX2_isUnlike_24 : decode cX2_isUnlike 24 = .ok (.goto 4, 3) := by decide +kernel
theorem dX2_isUnlike_27 : decode cX2_isUnlike 27 = .ok (.iconst 0, 1) := by decide +kernel
theorem dX2_isUnlike_28 : decode cX2_isUnlike 28 = .ok (.ireturn, 1) := by decide +kernel
theorem dX2_showsAs_0 : decode cX2_showsAs 0 = .ok (.iconst 0, 1) := by decide +kernel
theorem dX2_showsAs_1 : decode cX2_showsAs 1 = .ok (.istore_n 3, 1) := by decide +kernel
theorem dX2_showsAs_2 : decode cX2_showsAs 2 = .ok (.iload_n 3, 1) := by decide +kernel
theorem dX2_showsAs_3 : decode cX2_showsAs 3 = .ok (.aload_n 0, 1) := by decide +kernel
theorem dX2_showsAs_4 : decode cX2_showsAs 4 = .ok (.getfield 9, 3) := by decide +kernel
theorem dX2_showsAs_7 : decode cX2_showsAs 7 = .ok (.if_icmp .ge 27, 3) := by decide +kernel
theorem dX2_showsAs_10 : decode cX2_showsAs 10 = .ok (.aload_n 1, 1) := by decide +kernel
theorem dX2_showsAs_11 : decode cX2_showsAs 11 = .ok (.iload_n 2, 1) := by decide +kernel
theorem dX2_showsAs_12 : decode cX2_showsAs 12 = .ok (.iload_n 3, 1) := by decide +kernel
theorem dX2_showsAs_13 : decode cX2_showsAs 13 = .ok (.iadd, 1) := by decide +kernel
theorem dX2_showsAs_14 : decode cX2_showsAs 14 = .ok (.laload, 1) := by decide +kernel
theorem dX2_showsAs_15 : decode cX2_showsAs 15 = .ok (.aload_n 0, 1) := by decide +kernel
theorem dX2_showsAs_16 : decode cX2_showsAs 16 = .ok (.getfield 38, 3) := by decide +kernel
theorem dX2_showsAs_19 : decode cX2_showsAs 19 = .ok (.iload_n 3, 1) := by decide +kernel
theorem dX2_showsAs_20 : decode cX2_showsAs 20 = .ok (.iaload, 1) := by decide +kernel
theorem dX2_showsAs_21 : decode cX2_showsAs 21 = .ok (.i2l, 1) := by decide +kernel
theorem dX2_showsAs_22 : decode cX2_showsAs 22 = .ok (.lcmp, 1) := by decide +kernel
theorem dX2_showsAs_23 : decode cX2_showsAs 23 = .ok (.ifCond .eq 5, 3) := by decide +kernel
theorem dX2_showsAs_26 : decode cX2_showsAs 26 = .ok (.iconst 0, 1) := by decide +kernel
theorem dX2_showsAs_27 : decode cX2_showsAs 27 = .ok (.ireturn, 1) := by decide +kernel
theorem dX2_showsAs_28 : decode cX2_showsAs 28 = .ok (.iinc 3 1, 3) := by decide +kernel
theorem dX2_showsAs_31 : decode cX2_showsAs 31 = .ok (.goto (-29), 3) := by decide +kernel
theorem dX2_showsAs_34 : decode cX2_showsAs 34 = .ok (.iconst 1, 1) := by decide +kernel
theorem dX2_showsAs_35 : decode cX2_showsAs 35 = .ok (.ireturn, 1) := by decide +kernel
theorem dX2_outcome_0 : decode cX2_outcome 0 = .ok (.iconst 0, 1) := by decide +kernel
theorem dX2_outcome_1 : decode cX2_outcome 1 = .ok (.istore_n 1, 1) := by decide +kernel
theorem dX2_outcome_2 : decode cX2_outcome 2 = .ok (.iconst 0, 1) := by decide +kernel
theorem dX2_outcome_3 : decode cX2_outcome 3 = .ok (.istore_n 2, 1) := by decide +kernel
theorem dX2_outcome_4 : decode cX2_outcome 4 = .ok (.iload_n 2, 1) := by decide +kernel
theorem dX2_outcome_5 : decode cX2_outcome 5 = .ok (.aload_n 0, 1) := by decide +kernel
theorem dX2_outcome_6 : decode cX2_outcome 6 = .ok (.getfield 9, 3) := by decide +kernel
theorem dX2_outcome_9 : decode cX2_outcome 9 = .ok (.if_icmp .ge 38, 3) := by decide +kernel
theorem dX2_outcome_12 : decode cX2_outcome 12 = .ok (.aload_n 0, 1) := by decide +kernel
theorem dX2_outcome_13 : decode cX2_outcome 13 = .ok (.iload_n 2, 1) := by decide +kernel
theorem dX2_outcome_14 : decode cX2_outcome 14 = .ok (.invokevirtual 87, 3) := by decide +kernel
theorem dX2_outcome_17 : decode cX2_outcome 17 = .ok (.ifCond .eq 24, 3) := by decide +kernel
theorem dX2_outcome_20 : decode cX2_outcome 20 = .ok (.iload_n 1, 1) := by decide +kernel
theorem dX2_outcome_21 : decode cX2_outcome 21 = .ok (.aload_n 0, 1) := by decide +kernel
theorem dX2_outcome_22 : decode cX2_outcome 22 = .ok (.getfield 38, 3) := by decide +kernel
theorem dX2_outcome_25 : decode cX2_outcome 25 = .ok (.iload_n 2, 1) := by decide +kernel
theorem dX2_outcome_26 : decode cX2_outcome 26 = .ok (.iaload, 1) := by decide +kernel
theorem dX2_outcome_27 : decode cX2_outcome 27 = .ok (.iconst 2, 1) := by decide +kernel
theorem dX2_outcome_28 : decode cX2_outcome 28 = .ok (.imul, 1) := by decide +kernel
theorem dX2_outcome_29 : decode cX2_outcome 29 = .ok (.aload_n 0, 1) := by decide +kernel
theorem dX2_outcome_30 : decode cX2_outcome 30 = .ok (.iload_n 2, 1) := by decide +kernel
theorem dX2_outcome_31 : decode cX2_outcome 31 = .ok (.invokevirtual 98, 3) := by decide +kernel
theorem dX2_outcome_34 : decode cX2_outcome 34 = .ok (.iadd, 1) := by decide +kernel
theorem dX2_outcome_35 : decode cX2_outcome 35 = .ok (.iconst 3, 1) := by decide +kernel
theorem dX2_outcome_36 : decode cX2_outcome 36 = .ok (.iload_n 2, 1) := by decide +kernel
theorem dX2_outcome_37 : decode cX2_outcome 37 = .ok (.imul, 1) := by decide +kernel
theorem dX2_outcome_38 : decode cX2_outcome 38 = .ok (.ishl, 1) := by decide +kernel
theorem dX2_outcome_39 : decode cX2_outcome 39 = .ok (.ior, 1) := by decide +kernel
theorem dX2_outcome_40 : decode cX2_outcome 40 = .ok (.istore_n 1, 1) := by decide +kernel
theorem dX2_outcome_41 : decode cX2_outcome 41 = .ok (.iinc 2 1, 3) := by decide +kernel
theorem dX2_outcome_44 : decode cX2_outcome 44 = .ok (.goto (-40), 3) := by decide +kernel
theorem dX2_outcome_47 : decode cX2_outcome 47 = .ok (.iload_n 1, 1) := by decide +kernel
theorem dX2_outcome_48 : decode cX2_outcome 48 = .ok (.ireturn, 1) := by decide +kernel
theorem dX2_isStill_0 : decode cX2_isStill 0 = .ok (.aload_n 0, 1) := by decide +kernel
theorem dX2_isStill_1 : decode cX2_isStill 1 = .ok (.getfield 30, 3) := by decide +kernel
theorem dX2_isStill_4 : decode cX2_isStill 4 = .ok (.ifCond .eq 5, 3) := by decide +kernel
theorem dX2_isStill_7 : decode cX2_isStill 7 = .ok (.iconst 0, 1) := by decide +kernel
theorem dX2_isStill_8 : decode cX2_isStill 8 = .ok (.ireturn, 1) := by decide +kernel
theorem dX2_isStill_9 : decode cX2_isStill 9 = .ok (.iconst 0, 1) := by decide +kernel
theorem dX2_isStill_10 : decode cX2_isStill 10 = .ok (.istore_n 1, 1) := by decide +kernel
theorem dX2_isStill_11 : decode cX2_isStill 11 = .ok (.iload_n 1, 1) := by decide +kernel
theorem dX2_isStill_12 : decode cX2_isStill 12 = .ok (.aload_n 0, 1) := by decide +kernel
theorem dX2_isStill_13 : decode cX2_isStill 13 = .ok (.getfield 9, 3) := by decide +kernel
theorem dX2_isStill_16 : decode cX2_isStill 16 = .ok (.if_icmp .ge 39, 3) := by decide +kernel
theorem dX2_isStill_19 : decode cX2_isStill 19 = .ok (.aload_n 0, 1) := by decide +kernel
theorem dX2_isStill_20 : decode cX2_isStill 20 = .ok (.getfield 44, 3) := by decide +kernel
theorem dX2_isStill_23 : decode cX2_isStill 23 = .ok (.iload_n 1, 1) := by decide +kernel
theorem dX2_isStill_24 : decode cX2_isStill 24 = .ok (.iaload, 1) := by decide +kernel
theorem dX2_isStill_25 : decode cX2_isStill 25 = .ok (.aload_n 0, 1) := by decide +kernel
theorem dX2_isStill_26 : decode cX2_isStill 26 = .ok (.getfield 47, 3) := by decide +kernel
theorem dX2_isStill_29 : decode cX2_isStill 29 = .ok (.iload_n 1, 1) := by decide +kernel
theorem dX2_isStill_30 : decode cX2_isStill 30 = .ok (.iaload, 1) := by decide +kernel
theorem dX2_isStill_31 : decode cX2_isStill 31 = .ok (.if_icmp .ge 18, 3) := by decide +kernel
theorem dX2_isStill_34 : decode cX2_isStill 34 = .ok (.aload_n 0, 1) := by decide +kernel
theorem dX2_isStill_35 : decode cX2_isStill 35 = .ok (.getfield 47, 3) := by decide +kernel
theorem dX2_isStill_38 : decode cX2_isStill 38 = .ok (.iload_n 1, 1) := by decide +kernel
theorem dX2_isStill_39 : decode cX2_isStill 39 = .ok (.iaload, 1) := by decide +kernel
theorem dX2_isStill_40 : decode cX2_isStill 40 = .ok (.aload_n 0, 1) := by decide +kernel
theorem dX2_isStill_41 : decode cX2_isStill 41 = .ok (.getfield 15, 3) := by decide +kernel
theorem dX2_isStill_44 : decode cX2_isStill 44 = .ok (.if_icmp .lt 5, 3) := by decide +kernel
theorem dX2_isStill_47 : decode cX2_isStill 47 = .ok (.iconst 0, 1) := by decide +kernel
theorem dX2_isStill_48 : decode cX2_isStill 48 = .ok (.ireturn, 1) := by decide +kernel
theorem dX2_isStill_49 : decode cX2_isStill 49 = .ok (.iinc 1 1, 3) := by decide +kernel
theorem dX2_isStill_52 : decode cX2_isStill 52 = .ok (.goto (-41), 3) := by decide +kernel
theorem dX2_isStill_55 : decode cX2_isStill 55 = .ok (.aload_n 0, 1) := by decide +kernel
theorem dX2_isStill_56 : decode cX2_isStill 56 = .ok (.invokevirtual 101, 3) := by decide +kernel
theorem dX2_isStill_59 : decode cX2_isStill 59 = .ok (.ifCond .ne 7, 3) := by decide +kernel
theorem dX2_isStill_62 : decode cX2_isStill 62 = .ok (.iconst 1, 1) := by decide +kernel
theorem dX2_isStill_63 : decode cX2_isStill 63 = .ok (.goto 4, 3) := by decide +kernel
theorem dX2_isStill_66 : decode cX2_isStill 66 = .ok (.iconst 0, 1) := by decide +kernel
theorem dX2_isStill_67 : decode cX2_isStill 67 = .ok (.ireturn, 1) := by decide +kernel
theorem dX2_pass_0 : decode cX2_pass 0 = .ok (.aload_n 0, 1) := by decide +kernel
theorem dX2_pass_1 : decode cX2_pass 1 = .ok (.iconst 0, 1) := by decide +kernel
theorem dX2_pass_2 : decode cX2_pass 2 = .ok (.putfield 30, 3) := by decide +kernel
theorem dX2_pass_5 : decode cX2_pass 5 = .ok (.iconst 0, 1) := by decide +kernel
theorem dX2_pass_6 : decode cX2_pass 6 = .ok (.istore_n 3, 1) := by decide +kernel
theorem dX2_pass_7 : decode cX2_pass 7 = .ok (.iconst 0, 1) := by decide +kernel
theorem dX2_pass_8 : decode cX2_pass 8 = .ok (.istore 4, 2) := by decide +kernel
theorem dX2_pass_10 : decode cX2_pass 10 = .ok (.iload 4, 2) := by decide +kernel
theorem dX2_pass_12 : decode cX2_pass 12 = .ok (.aload_n 0, 1) := by decide +kernel
theorem dX2_pass_13 : decode cX2_pass 13 = .ok (.getfield 9, 3) := by decide +kernel
theorem dX2_pass_16 : decode cX2_pass 16 = .ok (.if_icmp .ge 15, 3) := by decide +kernel
theorem dX2_pass_19 : decode cX2_pass 19 = .ok (.aload_n 0, 1) := by decide +kernel
theorem dX2_pass_20 : decode cX2_pass 20 = .ok (.iload 4, 2) := by decide +kernel
theorem dX2_pass_22 : decode cX2_pass 22 = .ok (.invokevirtual 104, 3) := by decide +kernel
theorem dX2_pass_25 : decode cX2_pass 25 = .ok (.iinc 4 1, 3) := by decide +kernel
theorem dX2_pass_28 : decode cX2_pass 28 = .ok (.goto (-18), 3) := by decide +kernel
theorem dX2_pass_31 : decode cX2_pass 31 = .ok (.iconst 0, 1) := by decide +kernel
theorem dX2_pass_32 : decode cX2_pass 32 = .ok (.istore 4, 2) := by decide +kernel
theorem dX2_pass_34 : decode cX2_pass 34 = .ok (.iload 4, 2) := by decide +kernel
theorem dX2_pass_36 : decode cX2_pass 36 = .ok (.aload_n 0, 1) := by decide +kernel
theorem dX2_pass_37 : decode cX2_pass 37 = .ok (.getfield 9, 3) := by decide +kernel
theorem dX2_pass_40 : decode cX2_pass 40 = .ok (.if_icmp .ge 29, 3) := by decide +kernel
theorem dX2_pass_43 : decode cX2_pass 43 = .ok (.aload_n 0, 1) := by decide +kernel
theorem dX2_pass_44 : decode cX2_pass 44 = .ok (.iload 4, 2) := by decide +kernel
theorem dX2_pass_46 : decode cX2_pass 46 = .ok (.invokevirtual 108, 3) := by decide +kernel
theorem dX2_pass_49 : decode cX2_pass 49 = .ok (.ifCond .ne 14, 3) := by decide +kernel
theorem dX2_pass_52 : decode cX2_pass 52 = .ok (.iload_n 3, 1) := by decide +kernel
theorem dX2_pass_53 : decode cX2_pass 53 = .ok (.aload_n 0, 1) := by decide +kernel
theorem dX2_pass_54 : decode cX2_pass 54 = .ok (.iload 4, 2) := by decide +kernel
theorem dX2_pass_56 : decode cX2_pass 56 = .ok (.aload_n 1, 1) := by decide +kernel
theorem dX2_pass_57 : decode cX2_pass 57 = .ok (.iload_n 2, 1) := by decide +kernel
theorem dX2_pass_58 : decode cX2_pass 58 = .ok (.invokevirtual 111, 3) := by decide +kernel
theorem dX2_pass_61 : decode cX2_pass 61 = .ok (.iadd, 1) := by decide +kernel
theorem dX2_pass_62 : decode cX2_pass 62 = .ok (.istore_n 3, 1) := by decide +kernel
theorem dX2_pass_63 : decode cX2_pass 63 = .ok (.iinc 4 1, 3) := by decide +kernel
theorem dX2_pass_66 : decode cX2_pass 66 = .ok (.goto (-32), 3) := by decide +kernel
theorem dX2_pass_69 : decode cX2_pass 69 = .ok (.aload_n 0, 1) := by decide +kernel
theorem dX2_pass_70 : decode cX2_pass 70 = .ok (.aload_n 0, 1) := by decide +kernel
theorem dX2_pass_71 : decode cX2_pass 71 = .ok (.getfield 24, 3) := by decide +kernel
theorem dX2_pass_74 : decode cX2_pass 74 = .ok (.iconst 1, 1) := by decide +kernel
theorem dX2_pass_75 : decode cX2_pass 75 = .ok (.iadd, 1) := by decide +kernel
theorem dX2_pass_76 : decode cX2_pass 76 = .ok (.bipush 19, 2) := by decide +kernel
theorem dX2_pass_78 : decode cX2_pass 78 = .ok (.irem, 1) := by decide +kernel
theorem dX2_pass_79 : decode cX2_pass 79 = .ok (.putfield 24, 3) := by decide +kernel
theorem dX2_pass_82 : decode cX2_pass 82 = .ok (.aload_n 0, 1) := by decide +kernel
theorem dX2_pass_83 : decode cX2_pass 83 = .ok (.aload_n 0, 1) := by decide +kernel
theorem dX2_pass_84 : decode cX2_pass 84 = .ok (.getfield 15, 3) := by decide +kernel
theorem dX2_pass_87 : decode cX2_pass 87 = .ok (.iconst 1, 1) := by decide +kernel
theorem dX2_pass_88 : decode cX2_pass 88 = .ok (.iadd, 1) := by decide +kernel
theorem dX2_pass_89 : decode cX2_pass 89 = .ok (.sipush 999, 3) := by decide +kernel
theorem dX2_pass_92 : decode cX2_pass 92 = .ok (.invokestatic 115, 3) := by decide +kernel
theorem dX2_pass_95 : decode cX2_pass 95 = .ok (.putfield 15, 3) := by decide +kernel
theorem dX2_pass_98 : decode cX2_pass 98 = .ok (.aload_n 0, 1) := by decide +kernel
theorem dX2_pass_99 : decode cX2_pass 99 = .ok (.aload_n 0, 1) := by decide +kernel
theorem dX2_pass_100 : decode cX2_pass 100 = .ok (.getfield 18, 3) := by decide +kernel
theorem dX2_pass_103 : decode cX2_pass 103 = .ok (.iload_n 3, 1) := by decide +kernel
theorem dX2_pass_104 : decode cX2_pass 104 = .ok (.iadd, 1) := by decide +kernel
theorem dX2_pass_105 : decode cX2_pass 105 = .ok (.ldc 120, 2) := by decide +kernel
theorem dX2_pass_107 : decode cX2_pass 107 = .ok (.invokestatic 115, 3) := by decide +kernel
theorem dX2_pass_110 : decode cX2_pass 110 = .ok (.putfield 18, 3) := by decide +kernel
theorem dX2_pass_113 : decode cX2_pass 113 = .ok (.iload_n 3, 1) := by decide +kernel
theorem dX2_pass_114 : decode cX2_pass 114 = .ok (.ireturn, 1) := by decide +kernel
theorem dX2_hear_0 : decode cX2_hear 0 = .ok (.aload_n 0, 1) := by decide +kernel
theorem dX2_hear_1 : decode cX2_hear 1 = .ok (.getfield 24, 3) := by decide +kernel
theorem dX2_hear_4 : decode cX2_hear 4 = .ok (.iload_n 1, 1) := by decide +kernel
theorem dX2_hear_5 : decode cX2_hear 5 = .ok (.invokestatic 73, 3) := by decide +kernel
theorem dX2_hear_8 : decode cX2_hear 8 = .ok (.istore_n 2, 1) := by decide +kernel
theorem dX2_hear_9 : decode cX2_hear 9 = .ok (.aload_n 0, 1) := by decide +kernel
theorem dX2_hear_10 : decode cX2_hear 10 = .ok (.getfield 58, 3) := by decide +kernel
theorem dX2_hear_13 : decode cX2_hear 13 = .ok (.iconst 0, 1) := by decide +kernel
theorem dX2_hear_14 : decode cX2_hear 14 = .ok (.aaload, 1) := by decide +kernel
theorem dX2_hear_15 : decode cX2_hear 15 = .ok (.iload_n 2, 1) := by decide +kernel
theorem dX2_hear_16 : decode cX2_hear 16 = .ok (.iaload, 1) := by decide +kernel
theorem dX2_hear_17 : decode cX2_hear 17 = .ok (.istore_n 3, 1) := by decide +kernel
theorem dX2_hear_18 : decode cX2_hear 18 = .ok (.aload_n 0, 1) := by decide +kernel
theorem dX2_hear_19 : decode cX2_hear 19 = .ok (.getfield 58, 3) := by decide +kernel
theorem dX2_hear_22 : decode cX2_hear 22 = .ok (.iconst 1, 1) := by decide +kernel
theorem dX2_hear_23 : decode cX2_hear 23 = .ok (.aaload, 1) := by decide +kernel
theorem dX2_hear_24 : decode cX2_hear 24 = .ok (.iload_n 2, 1) := by decide +kernel
theorem dX2_hear_25 : decode cX2_hear 25 = .ok (.iaload, 1) := by decide +kernel
theorem dX2_hear_26 : decode cX2_hear 26 = .ok (.istore 4, 2) := by decide +kernel
theorem dX2_hear_28 : decode cX2_hear 28 = .ok (.aload_n 0, 1) := by decide +kernel
theorem dX2_hear_29 : decode cX2_hear 29 = .ok (.getfield 58, 3) := by decide +kernel
theorem dX2_hear_32 : decode cX2_hear 32 = .ok (.iconst 0, 1) := by decide +kernel
theorem dX2_hear_33 : decode cX2_hear 33 = .ok (.aaload, 1) := by decide +kernel
theorem dX2_hear_34 : decode cX2_hear 34 = .ok (.iload_n 2, 1) := by decide +kernel
theorem dX2_hear_35 : decode cX2_hear 35 = .ok (.iconst 0, 1) := by decide +kernel
theorem dX2_hear_36 : decode cX2_hear 36 = .ok (.iastore, 1) := by decide +kernel
theorem dX2_hear_37 : decode cX2_hear 37 = .ok (.aload_n 0, 1) := by decide +kernel
theorem dX2_hear_38 : decode cX2_hear 38 = .ok (.getfield 58, 3) := by decide +kernel
theorem dX2_hear_41 : decode cX2_hear 41 = .ok (.iconst 1, 1) := by decide +kernel
theorem dX2_hear_42 : decode cX2_hear 42 = .ok (.aaload, 1) := by decide +kernel
theorem dX2_hear_43 : decode cX2_hear 43 = .ok (.iload_n 2, 1) := by decide +kernel
theorem dX2_hear_44 : decode cX2_hear 44 = .ok (.iconst 0, 1) := by decide +kernel
theorem dX2_hear_45 : decode cX2_hear 45 = .ok (.iastore, 1) := by decide +kernel
theorem dX2_hear_46 : decode cX2_hear 46 = .ok (.aload_n 0, 1) := by decide +kernel
theorem dX2_hear_47 : decode cX2_hear 47 = .ok (.iload_n 1, 1) := by decide +kernel
theorem dX2_hear_48 : decode cX2_hear 48 = .ok (.invokevirtual 108, 3) := by decide +kernel
theorem dX2_hear_51 : decode cX2_hear 51 = .ok (.ifCond .ne 49, 3) := by decide +kernel
theorem dX2_hear_54 : decode cX2_hear 54 = .ok (.aload_n 0, 1) := by decide +kernel
theorem dX2_hear_55 : decode cX2_hear 55 = .ok (.getfield 55, 3) := by decide +kernel
theorem dX2_hear_58 : decode cX2_hear 58 = .ok (.iconst 0, 1) := by decide +kernel
theorem dX2_hear_59 : decode cX2_hear 59 = .ok (.aaload, 1) := by decide +kernel
theorem dX2_hear_60 : decode cX2_hear 60 = .ok (.iload_n 1, 1) := by decide +kernel
theorem dX2_hear_61 : decode cX2_hear 61 = .ok (.aload_n 0, 1) := by decide +kernel
theorem dX2_hear_62 : decode cX2_hear 62 = .ok (.getfield 55, 3) := by decide +kernel
theorem dX2_hear_65 : decode cX2_hear 65 = .ok (.iconst 0, 1) := by decide +kernel
theorem dX2_hear_66 : decode cX2_hear 66 = .ok (.aaload, 1) := by decide +kernel
theorem dX2_hear_67 : decode cX2_hear 67 = .ok (.iload_n 1, 1) := by decide +kernel
theorem dX2_hear_68 : decode cX2_hear 68 = .ok (.iaload, 1) := by decide +kernel
theorem dX2_hear_69 : decode cX2_hear 69 = .ok (.iload 4, 2) := by decide +kernel
theorem dX2_hear_71 : decode cX2_hear 71 = .ok (.iconst (-1), 1) := by decide +kernel
theorem dX2_hear_72 : decode cX2_hear 72 = .ok (.ixor, 1) := by decide +kernel
theorem dX2_hear_73 : decode cX2_hear 73 = .ok (.iand, 1) := by decide +kernel
theorem dX2_hear_74 : decode cX2_hear 74 = .ok (.iload_n 3, 1) := by decide +kernel
theorem dX2_hear_75 : decode cX2_hear 75 = .ok (.ior, 1) := by decide +kernel
theorem dX2_hear_76 : decode cX2_hear 76 = .ok (.iastore, 1) := by decide +kernel
theorem dX2_hear_77 : decode cX2_hear 77 = .ok (.aload_n 0, 1) := by decide +kernel
theorem dX2_hear_78 : decode cX2_hear 78 = .ok (.getfield 55, 3) := by decide +kernel
theorem dX2_hear_81 : decode cX2_hear 81 = .ok (.iconst 1, 1) := by decide +kernel
theorem dX2_hear_82 : decode cX2_hear 82 = .ok (.aaload, 1) := by decide +kernel
theorem dX2_hear_83 : decode cX2_hear 83 = .ok (.iload_n 1, 1) := by decide +kernel
theorem dX2_hear_84 : decode cX2_hear 84 = .ok (.aload_n 0, 1) := by decide +kernel
theorem dX2_hear_85 : decode cX2_hear 85 = .ok (.getfield 55, 3) := by decide +kernel
theorem dX2_hear_88 : decode cX2_hear 88 = .ok (.iconst 1, 1) := by decide +kernel
theorem dX2_hear_89 : decode cX2_hear 89 = .ok (.aaload, 1) := by decide +kernel
theorem dX2_hear_90 : decode cX2_hear 90 = .ok (.iload_n 1, 1) := by decide +kernel
theorem dX2_hear_91 : decode cX2_hear 91 = .ok (.iaload, 1) := by decide +kernel
theorem dX2_hear_92 : decode cX2_hear 92 = .ok (.iload_n 3, 1) := by decide +kernel
theorem dX2_hear_93 : decode cX2_hear 93 = .ok (.iconst (-1), 1) := by decide +kernel
theorem dX2_hear_94 : decode cX2_hear 94 = .ok (.ixor, 1) := by decide +kernel
theorem dX2_hear_95 : decode cX2_hear 95 = .ok (.iand, 1) := by decide +kernel
theorem dX2_hear_96 : decode cX2_hear 96 = .ok (.iload 4, 2) := by decide +kernel
theorem dX2_hear_98 : decode cX2_hear 98 = .ok (.ior, 1) := by decide +kernel
theorem dX2_hear_99 : decode cX2_hear 99 = .ok (.iastore, 1) := by decide +kernel
theorem dX2_hear_100 : decode cX2_hear 100 = .ok (.return_, 1) := by decide +kernel
theorem dX2_act_0 : decode cX2_act 0 = .ok (.iconst 0, 1) := by decide +kernel
theorem dX2_act_1 : decode cX2_act 1 = .ok (.istore 4, 2) := by decide +kernel
theorem dX2_act_3 : decode cX2_act 3 = .ok (.iconst 0, 1) := by decide +kernel
theorem dX2_act_4 : decode cX2_act 4 = .ok (.istore 5, 2) := by decide +kernel
theorem dX2_act_6 : decode cX2_act 6 = .ok (.iload 5, 2) := by decide +kernel
theorem dX2_act_8 : decode cX2_act 8 = .ok (.aload_n 2, 1) := by decide +kernel
theorem dX2_act_9 : decode cX2_act 9 = .ok (.getfield 121, 3) := by decide +kernel
theorem dX2_act_12 : decode cX2_act 12 = .ok (.if_icmp .ge 127, 3) := by decide +kernel
theorem dX2_act_15 : decode cX2_act 15 = .ok (.aload_n 0, 1) := by decide +kernel
theorem dX2_act_16 : decode cX2_act 16 = .ok (.iload_n 1, 1) := by decide +kernel
theorem dX2_act_17 : decode cX2_act 17 = .ok (.aload_n 2, 1) := by decide +kernel
theorem dX2_act_18 : decode cX2_act 18 = .ok (.getfield 126, 3) := by decide +kernel
theorem dX2_act_21 : decode cX2_act 21 = .ok (.iload 5, 2) := by decide +kernel
theorem dX2_act_23 : decode cX2_act 23 = .ok (.iaload, 1) := by decide +kernel
theorem dX2_act_24 : decode cX2_act 24 = .ok (.invokevirtual 129, 3) := by decide +kernel
theorem dX2_act_27 : decode cX2_act 27 = .ok (.aload_n 2, 1) := by decide +kernel
theorem dX2_act_28 : decode cX2_act 28 = .ok (.getfield 131, 3) := by decide +kernel
theorem dX2_act_31 : decode cX2_act 31 = .ok (.iload 5, 2) := by decide +kernel
theorem dX2_act_33 : decode cX2_act 33 = .ok (.iaload, 1) := by decide +kernel
theorem dX2_act_34 : decode cX2_act 34 = .ok (.if_icmp .lt 99, 3) := by decide +kernel
theorem dX2_act_37 : decode cX2_act 37 = .ok (.aload_n 2, 1) := by decide +kernel
theorem dX2_act_38 : decode cX2_act 38 = .ok (.getfield 134, 3) := by decide +kernel
theorem dX2_act_41 : decode cX2_act 41 = .ok (.iload 5, 2) := by decide +kernel
theorem dX2_act_43 : decode cX2_act 43 = .ok (.iaload, 1) := by decide +kernel
theorem dX2_act_44 : decode cX2_act 44 = .ok (.iconst 2, 1) := by decide +kernel
theorem dX2_act_45 : decode cX2_act 45 = .ok (.if_icmp .ne 11, 3) := by decide +kernel
theorem dX2_act_48 : decode cX2_act 48 = .ok (.aload_n 0, 1) := by decide +kernel
theorem dX2_act_49 : decode cX2_act 49 = .ok (.iload_n 1, 1) := by decide +kernel
theorem dX2_act_50 : decode cX2_act 50 = .ok (.invokevirtual 98, 3) := by decide +kernel
theorem dX2_act_53 : decode cX2_act 53 = .ok (.goto 10, 3) := by decide +kernel
theorem dX2_act_56 : decode cX2_act 56 = .ok (.aload_n 2, 1) := by decide +kernel
theorem dX2_act_57 : decode cX2_act 57 = .ok (.getfield 134, 3) := by decide +kernel
theorem dX2_act_60 : decode cX2_act 60 = .ok (.iload 5, 2) := by decide +kernel
theorem dX2_act_62 : decode cX2_act 62 = .ok (.iaload, 1) := by decide +kernel
theorem dX2_act_63 : decode cX2_act 63 = .ok (.istore 6, 2) := by decide +kernel
theorem dX2_act_65 : decode cX2_act 65 = .ok (.aload_n 2, 1) := by decide +kernel
theorem dX2_act_66 : decode cX2_act 66 = .ok (.getfield 137, 3) := by decide +kernel
theorem dX2_act_69 : decode cX2_act 69 = .ok (.iload 5, 2) := by decide +kernel
theorem dX2_act_71 : decode cX2_act 71 = .ok (.iaload, 1) := by decide +kernel
theorem dX2_act_72 : decode cX2_act 72 = .ok (.lookupswitch 54 #[(0, 28), (1, 44)], 28) := by decide +kernel
theorem dX2_act_100 : decode cX2_act 100 = .ok (.iload 4, 2) := by decide +kernel
theorem dX2_act_102 : decode cX2_act 102 = .ok (.aload_n 0, 1) := by decide +kernel
theorem dX2_act_103 : decode cX2_act 103 = .ok (.iload_n 1, 1) := by decide +kernel
theorem dX2_act_104 : decode cX2_act 104 = .ok (.iload 6, 2) := by decide +kernel
theorem dX2_act_106 : decode cX2_act 106 = .ok (.iload_n 3, 1) := by decide +kernel
theorem dX2_act_107 : decode cX2_act 107 = .ok (.invokevirtual 139, 3) := by decide +kernel
theorem dX2_act_110 : decode cX2_act 110 = .ok (.iadd, 1) := by decide +kernel
theorem dX2_act_111 : decode cX2_act 111 = .ok (.istore 4, 2) := by decide +kernel
theorem dX2_act_113 : decode cX2_act 113 = .ok (.goto 20, 3) := by decide +kernel
theorem dX2_act_116 : decode cX2_act 116 = .ok (.aload_n 0, 1) := by decide +kernel
theorem dX2_act_117 : decode cX2_act 117 = .ok (.iload_n 1, 1) := by decide +kernel
theorem dX2_act_118 : decode cX2_act 118 = .ok (.iload 6, 2) := by decide +kernel
theorem dX2_act_120 : decode cX2_act 120 = .ok (.invokevirtual 143, 3) := by decide +kernel
theorem dX2_act_123 : decode cX2_act 123 = .ok (.goto 10, 3) := by decide +kernel
theorem dX2_act_126 : decode cX2_act 126 = .ok (.aload_n 0, 1) := by decide +kernel
theorem dX2_act_127 : decode cX2_act 127 = .ok (.iload_n 1, 1) := by decide +kernel
theorem dX2_act_128 : decode cX2_act 128 = .ok (.iload 6, 2) := by decide +kernel
theorem dX2_act_130 : decode cX2_act 130 = .ok (.invokevirtual 147, 3) := by decide +kernel
theorem dX2_act_133 : decode cX2_act 133 = .ok (.iinc 5 1, 3) := by decide +kernel
theorem dX2_act_136 : decode cX2_act 136 = .ok (.goto (-130), 3) := by decide +kernel
theorem dX2_act_139 : decode cX2_act 139 = .ok (.iload 4, 2) := by decide +kernel
theorem dX2_act_141 : decode cX2_act 141 = .ok (.ireturn, 1) := by decide +kernel
theorem dX2_believe_0 : decode cX2_believe 0 = .ok (.aload_n 0, 1) := by decide +kernel
theorem dX2_believe_1 : decode cX2_believe 1 = .ok (.iload_n 1, 1) := by decide +kernel
theorem dX2_believe_2 : decode cX2_believe 2 = .ok (.invokevirtual 98, 3) := by decide +kernel
theorem dX2_believe_5 : decode cX2_believe 5 = .ok (.iload_n 2, 1) := by decide +kernel
theorem dX2_believe_6 : decode cX2_believe 6 = .ok (.if_icmp .eq 40, 3) := by decide +kernel
theorem dX2_believe_9 : decode cX2_believe 9 = .ok (.aload_n 0, 1) := by decide +kernel
theorem dX2_believe_10 : decode cX2_believe 10 = .ok (.getfield 55, 3) := by decide +kernel
theorem dX2_believe_13 : decode cX2_believe 13 = .ok (.iload_n 2, 1) := by decide +kernel
theorem dX2_believe_14 : decode cX2_believe 14 = .ok (.aaload, 1) := by decide +kernel
theorem dX2_believe_15 : decode cX2_believe 15 = .ok (.iload_n 1, 1) := by decide +kernel
theorem dX2_believe_16 : decode cX2_believe 16 = .ok (.dup2, 1) := by decide +kernel
theorem dX2_believe_17 : decode cX2_believe 17 = .ok (.iaload, 1) := by decide +kernel
theorem dX2_believe_18 : decode cX2_believe 18 = .ok (.iconst 1, 1) := by decide +kernel
theorem dX2_believe_19 : decode cX2_believe 19 = .ok (.iload_n 1, 1) := by decide +kernel
theorem dX2_believe_20 : decode cX2_believe 20 = .ok (.ishl, 1) := by decide +kernel
theorem dX2_believe_21 : decode cX2_believe 21 = .ok (.ior, 1) := by decide +kernel
theorem dX2_believe_22 : decode cX2_believe 22 = .ok (.iastore, 1) := by decide +kernel
theorem dX2_believe_23 : decode cX2_believe 23 = .ok (.aload_n 0, 1) := by decide +kernel
theorem dX2_believe_24 : decode cX2_believe 24 = .ok (.getfield 55, 3) := by decide +kernel
theorem dX2_believe_27 : decode cX2_believe 27 = .ok (.iconst 1, 1) := by decide +kernel
theorem dX2_believe_28 : decode cX2_believe 28 = .ok (.iload_n 2, 1) := by decide +kernel
theorem dX2_believe_29 : decode cX2_believe 29 = .ok (.isub, 1) := by decide +kernel
theorem dX2_believe_30 : decode cX2_believe 30 = .ok (.aaload, 1) := by decide +kernel
theorem dX2_believe_31 : decode cX2_believe 31 = .ok (.iload_n 1, 1) := by decide +kernel
theorem dX2_believe_32 : decode cX2_believe 32 = .ok (.dup2, 1) := by decide +kernel
theorem dX2_believe_33 : decode cX2_believe 33 = .ok (.iaload, 1) := by decide +kernel
theorem dX2_believe_34 : decode cX2_believe 34 = .ok (.iconst 1, 1) := by decide +kernel
theorem dX2_believe_35 : decode cX2_believe 35 = .ok (.iload_n 1, 1) := by decide +kernel
theorem dX2_believe_36 : decode cX2_believe 36 = .ok (.ishl, 1) := by decide +kernel
theorem dX2_believe_37 : decode cX2_believe 37 = .ok (.iconst (-1), 1) := by decide +kernel
theorem dX2_believe_38 : decode cX2_believe 38 = .ok (.ixor, 1) := by decide +kernel
theorem dX2_believe_39 : decode cX2_believe 39 = .ok (.iand, 1) := by decide +kernel
theorem dX2_believe_40 : decode cX2_believe 40 = .ok (.iastore, 1) := by decide +kernel
theorem dX2_believe_41 : decode cX2_believe 41 = .ok (.aload_n 0, 1) := by decide +kernel
theorem dX2_believe_42 : decode cX2_believe 42 = .ok (.iconst 1, 1) := by decide +kernel
theorem dX2_believe_43 : decode cX2_believe 43 = .ok (.putfield 30, 3) := by decide +kernel
theorem dX2_believe_46 : decode cX2_believe 46 = .ok (.return_, 1) := by decide +kernel
theorem dX2_show_0 : decode cX2_show 0 = .ok (.aload_n 0, 1) := by decide +kernel
theorem dX2_show_1 : decode cX2_show 1 = .ok (.getfield 38, 3) := by decide +kernel
theorem dX2_show_4 : decode cX2_show 4 = .ok (.iload_n 1, 1) := by decide +kernel
theorem dX2_show_5 : decode cX2_show 5 = .ok (.iaload, 1) := by decide +kernel
theorem dX2_show_6 : decode cX2_show 6 = .ok (.iconst 2, 1) := by decide +kernel
theorem dX2_show_7 : decode cX2_show 7 = .ok (.if_icmp .ne 15, 3) := by decide +kernel
theorem dX2_show_10 : decode cX2_show 10 = .ok (.aload_n 0, 1) := by decide +kernel
theorem dX2_show_11 : decode cX2_show 11 = .ok (.getfield 38, 3) := by decide +kernel
theorem dX2_show_14 : decode cX2_show 14 = .ok (.iload_n 1, 1) := by decide +kernel
theorem dX2_show_15 : decode cX2_show 15 = .ok (.iload_n 2, 1) := by decide +kernel
theorem dX2_show_16 : decode cX2_show 16 = .ok (.iastore, 1) := by decide +kernel
theorem dX2_show_17 : decode cX2_show 17 = .ok (.aload_n 0, 1) := by decide +kernel
theorem dX2_show_18 : decode cX2_show 18 = .ok (.iconst 1, 1) := by decide +kernel
theorem dX2_show_19 : decode cX2_show 19 = .ok (.putfield 30, 3) := by decide +kernel
theorem dX2_show_22 : decode cX2_show 22 = .ok (.return_, 1) := by decide +kernel
theorem dX2_say_0 : decode cX2_say 0 = .ok (.aload_n 0, 1) := by decide +kernel
theorem dX2_say_1 : decode cX2_say 1 = .ok (.getfield 41, 3) := by decide +kernel
theorem dX2_say_4 : decode cX2_say 4 = .ok (.iload_n 1, 1) := by decide +kernel
theorem dX2_say_5 : decode cX2_say 5 = .ok (.iaload, 1) := by decide +kernel
theorem dX2_say_6 : decode cX2_say 6 = .ok (.istore 4, 2) := by decide +kernel
theorem dX2_say_8 : decode cX2_say 8 = .ok (.iload 4, 2) := by decide +kernel
theorem dX2_say_10 : decode cX2_say 10 = .ok (.iload_n 2, 1) := by decide +kernel
theorem dX2_say_11 : decode cX2_say 11 = .ok (.if_icmp .ne 5, 3) := by decide +kernel
theorem dX2_say_14 : decode cX2_say 14 = .ok (.iconst 0, 1) := by decide +kernel
theorem dX2_say_15 : decode cX2_say 15 = .ok (.ireturn, 1) := by decide +kernel
theorem dX2_say_16 : decode cX2_say 16 = .ok (.aload_n 0, 1) := by decide +kernel
theorem dX2_say_17 : decode cX2_say 17 = .ok (.getfield 41, 3) := by decide +kernel
theorem dX2_say_20 : decode cX2_say 20 = .ok (.iload_n 1, 1) := by decide +kernel
theorem dX2_say_21 : decode cX2_say 21 = .ok (.iload_n 2, 1) := by decide +kernel
theorem dX2_say_22 : decode cX2_say 22 = .ok (.iastore, 1) := by decide +kernel
theorem dX2_say_23 : decode cX2_say 23 = .ok (.aload_n 0, 1) := by decide +kernel
theorem dX2_say_24 : decode cX2_say 24 = .ok (.iconst 1, 1) := by decide +kernel
theorem dX2_say_25 : decode cX2_say 25 = .ok (.putfield 30, 3) := by decide +kernel
theorem dX2_say_28 : decode cX2_say 28 = .ok (.aload_n 0, 1) := by decide +kernel
theorem dX2_say_29 : decode cX2_say 29 = .ok (.getfield 34, 3) := by decide +kernel
theorem dX2_say_32 : decode cX2_say 32 = .ok (.iload_n 1, 1) := by decide +kernel
theorem dX2_say_33 : decode cX2_say 33 = .ok (.iaload, 1) := by decide +kernel
theorem dX2_say_34 : decode cX2_say 34 = .ok (.iconst 5, 1) := by decide +kernel
theorem dX2_say_35 : decode cX2_say 35 = .ok (.if_icmp .ne 5, 3) := by decide +kernel
theorem dX2_say_38 : decode cX2_say 38 = .ok (.iconst 0, 1) := by decide +kernel
theorem dX2_say_39 : decode cX2_say 39 = .ok (.ireturn, 1) := by decide +kernel
theorem dX2_say_40 : decode cX2_say 40 = .ok (.iconst 0, 1) := by decide +kernel
theorem dX2_say_41 : decode cX2_say 41 = .ok (.istore 5, 2) := by decide +kernel
theorem dX2_say_43 : decode cX2_say 43 = .ok (.iload 5, 2) := by decide +kernel
theorem dX2_say_45 : decode cX2_say 45 = .ok (.aload_n 0, 1) := by decide +kernel
theorem dX2_say_46 : decode cX2_say 46 = .ok (.getfield 9, 3) := by decide +kernel
theorem dX2_say_49 : decode cX2_say 49 = .ok (.if_icmp .ge 46, 3) := by decide +kernel
theorem dX2_say_52 : decode cX2_say 52 = .ok (.iload 5, 2) := by decide +kernel
theorem dX2_say_54 : decode cX2_say 54 = .ok (.iload_n 1, 1) := by decide +kernel
theorem dX2_say_55 : decode cX2_say 55 = .ok (.if_icmp .eq 34, 3) := by decide +kernel
theorem dX2_say_58 : decode cX2_say 58 = .ok (.aload_n 0, 1) := by decide +kernel
theorem dX2_say_59 : decode cX2_say 59 = .ok (.iload_n 1, 1) := by decide +kernel
theorem dX2_say_60 : decode cX2_say 60 = .ok (.iload 5, 2) := by decide +kernel
theorem dX2_say_62 : decode cX2_say 62 = .ok (.aload_n 0, 1) := by decide +kernel
theorem dX2_say_63 : decode cX2_say 63 = .ok (.getfield 34, 3) := by decide +kernel
theorem dX2_say_66 : decode cX2_say 66 = .ok (.iload_n 1, 1) := by decide +kernel
theorem dX2_say_67 : decode cX2_say 67 = .ok (.iaload, 1) := by decide +kernel
theorem dX2_say_68 : decode cX2_say 68 = .ok (.iload_n 2, 1) := by decide +kernel
theorem dX2_say_69 : decode cX2_say 69 = .ok (.iload 4, 2) := by decide +kernel
theorem dX2_say_71 : decode cX2_say 71 = .ok (.iload 5, 2) := by decide +kernel
theorem dX2_say_73 : decode cX2_say 73 = .ok (.iload_n 1, 1) := by decide +kernel
theorem dX2_say_74 : decode cX2_say 74 = .ok (.if_icmp .ge 7, 3) := by decide +kernel
theorem dX2_say_77 : decode cX2_say 77 = .ok (.iconst 1, 1) := by decide +kernel
theorem dX2_say_78 : decode cX2_say 78 = .ok (.goto 4, 3) := by decide +kernel
theorem dX2_say_81 : decode cX2_say 81 = .ok (.iconst 0, 1) := by decide +kernel
theorem dX2_say_82 : decode cX2_say 82 = .ok (.invokestatic 150, 3) := by decide +kernel
theorem dX2_say_85 : decode cX2_say 85 = .ok (.iload_n 3, 1) := by decide +kernel
theorem dX2_say_86 : decode cX2_say 86 = .ok (.invokevirtual 154, 3) := by decide +kernel
theorem dX2_say_89 : decode cX2_say 89 = .ok (.iinc 5 1, 3) := by decide +kernel
theorem dX2_say_92 : decode cX2_say 92 = .ok (.goto (-49), 3) := by decide +kernel
theorem dX2_say_95 : decode cX2_say 95 = .ok (.aload_n 0, 1) := by decide +kernel
theorem dX2_say_96 : decode cX2_say 96 = .ok (.getfield 9, 3) := by decide +kernel
theorem dX2_say_99 : decode cX2_say 99 = .ok (.iconst 1, 1) := by decide +kernel
theorem dX2_say_100 : decode cX2_say 100 = .ok (.isub, 1) := by decide +kernel
theorem dX2_say_101 : decode cX2_say 101 = .ok (.ireturn, 1) := by decide +kernel
theorem dX2_colourSent_0 : decode cX2_colourSent 0 = .ok (.iload_n 0, 1) := by decide +kernel
theorem dX2_colourSent_1 : decode cX2_colourSent 1 = .ok (.tableswitch 66 1 4 #[31, 55, 66, 43], 31) := by decide +kernel
theorem dX2_colourSent_32 : decode cX2_colourSent 32 = .ok (.iload_n 3, 1) := by decide +kernel
theorem dX2_colourSent_33 : decode cX2_colourSent 33 = .ok (.ifCond .eq 7, 3) := by decide +kernel
theorem dX2_colourSent_36 : decode cX2_colourSent 36 = .ok (.iload_n 1, 1) := by decide +kernel
theorem dX2_colourSent_37 : decode cX2_colourSent 37 = .ok (.goto 6, 3) := by decide +kernel
theorem dX2_colourSent_40 : decode cX2_colourSent 40 = .ok (.iconst 1, 1) := by decide +kernel
theorem dX2_colourSent_41 : decode cX2_colourSent 41 = .ok (.iload_n 1, 1) := by decide +kernel
theorem dX2_colourSent_42 : decode cX2_colourSent 42 = .ok (.isub, 1) := by decide +kernel
theorem dX2_colourSent_43 : decode cX2_colourSent 43 = .ok (.ireturn, 1) := by decide +kernel
theorem dX2_colourSent_44 : decode cX2_colourSent 44 = .ok (.iload_n 3, 1) := by decide +kernel
theorem dX2_colourSent_45 : decode cX2_colourSent 45 = .ok (.ifCond .eq 9, 3) := by decide +kernel
theorem dX2_colourSent_48 : decode cX2_colourSent 48 = .ok (.iconst 1, 1) := by decide +kernel
theorem dX2_colourSent_49 : decode cX2_colourSent 49 = .ok (.iload_n 1, 1) := by decide +kernel
theorem dX2_colourSent_50 : decode cX2_colourSent 50 = .ok (.isub, 1) := by decide +kernel
theorem dX2_colourSent_51 : decode cX2_colourSent 51 = .ok (.goto 4, 3) := by decide +kernel
theorem dX2_colourSent_54 : decode cX2_colourSent 54 = .ok (.iload_n 1, 1) := by decide +kernel
theorem dX2_colourSent_55 : decode cX2_colourSent 55 = .ok (.ireturn, 1) := by decide +kernel
theorem dX2_colourSent_56 : decode cX2_colourSent 56 = .ok (.iload_n 2, 1) := by decide +kernel
theorem dX2_colourSent_57 : decode cX2_colourSent 57 = .ok (.iconst 2, 1) := by decide +kernel
theorem dX2_colourSent_58 : decode cX2_colourSent 58 = .ok (.if_icmp .ne 7, 3) := by decide +kernel
theorem dX2_colourSent_61 : decode cX2_colourSent 61 = .ok (.iload_n 1, 1) := by decide +kernel
theorem dX2_colourSent_62 : decode cX2_colourSent 62 = .ok (.goto 4, 3) := by decide +kernel
theorem dX2_colourSent_65 : decode cX2_colourSent 65 = .ok (.iload_n 2, 1) := by decide +kernel
theorem dX2_colourSent_66 : decode cX2_colourSent 66 = .ok (.ireturn, 1) := by decide +kernel
theorem dX2_colourSent_67 : decode cX2_colourSent 67 = .ok (.iload_n 1, 1) := by decide +kernel
theorem dX2_colourSent_68 : decode cX2_colourSent 68 = .ok (.ireturn, 1) := by decide +kernel
theorem dX2_send_0 : decode cX2_send 0 = .ok (.aload_n 0, 1) := by decide +kernel
theorem dX2_send_1 : decode cX2_send 1 = .ok (.getfield 52, 3) := by decide +kernel
theorem dX2_send_4 : decode cX2_send 4 = .ok (.iload_n 1, 1) := by decide +kernel
theorem dX2_send_5 : decode cX2_send 5 = .ok (.aaload, 1) := by decide +kernel
theorem dX2_send_6 : decode cX2_send 6 = .ok (.iload_n 2, 1) := by decide +kernel
theorem dX2_send_7 : decode cX2_send 7 = .ok (.iaload, 1) := by decide +kernel
theorem dX2_send_8 : decode cX2_send 8 = .ok (.istore 5, 2) := by decide +kernel
theorem dX2_send_10 : decode cX2_send 10 = .ok (.iload 4, 2) := by decide +kernel
theorem dX2_send_12 : decode cX2_send 12 = .ok (.ifCond .eq 35, 3) := by decide +kernel
theorem dX2_send_15 : decode cX2_send 15 = .ok (.aload_n 0, 1) := by decide +kernel
theorem dX2_send_16 : decode cX2_send 16 = .ok (.aload_n 0, 1) := by decide +kernel
theorem dX2_send_17 : decode cX2_send 17 = .ok (.getfield 21, 3) := by decide +kernel
theorem dX2_send_20 : decode cX2_send 20 = .ok (.ldc 158, 2) := by decide +kernel
theorem dX2_send_22 : decode cX2_send 22 = .ok (.imul, 1) := by decide +kernel
theorem dX2_send_23 : decode cX2_send 23 = .ok (.sipush 12345, 3) := by decide +kernel
theorem dX2_send_26 : decode cX2_send 26 = .ok (.iadd, 1) := by decide +kernel
theorem dX2_send_27 : decode cX2_send 27 = .ok (.ldc 159, 2) := by decide +kernel
theorem dX2_send_29 : decode cX2_send 29 = .ok (.iand, 1) := by decide +kernel
theorem dX2_send_30 : decode cX2_send 30 = .ok (.putfield 21, 3) := by decide +kernel
theorem dX2_send_33 : decode cX2_send 33 = .ok (.aload_n 0, 1) := by decide +kernel
theorem dX2_send_34 : decode cX2_send 34 = .ok (.getfield 21, 3) := by decide +kernel
theorem dX2_send_37 : decode cX2_send 37 = .ok (.bipush 16, 2) := by decide +kernel
theorem dX2_send_39 : decode cX2_send 39 = .ok (.ishr, 1) := by decide +kernel
theorem dX2_send_40 : decode cX2_send 40 = .ok (.bipush 9, 2) := by decide +kernel
theorem dX2_send_42 : decode cX2_send 42 = .ok (.irem, 1) := by decide +kernel
theorem dX2_send_43 : decode cX2_send 43 = .ok (.iconst 1, 1) := by decide +kernel
theorem dX2_send_44 : decode cX2_send 44 = .ok (.iadd, 1) := by decide +kernel
theorem dX2_send_45 : decode cX2_send 45 = .ok (.istore 5, 2) := by decide +kernel
theorem dX2_send_47 : decode cX2_send 47 = .ok (.aload_n 0, 1) := by decide +kernel
theorem dX2_send_48 : decode cX2_send 48 = .ok (.getfield 34, 3) := by decide +kernel
theorem dX2_send_51 : decode cX2_send 51 = .ok (.iload_n 1, 1) := by decide +kernel
theorem dX2_send_52 : decode cX2_send 52 = .ok (.iaload, 1) := by decide +kernel
theorem dX2_send_53 : decode cX2_send 53 = .ok (.iconst 3, 1) := by decide +kernel
theorem dX2_send_54 : decode cX2_send 54 = .ok (.if_icmp .ne 9, 3) := by decide +kernel
theorem dX2_send_57 : decode cX2_send 57 = .ok (.iload 5, 2) := by decide +kernel
theorem dX2_send_59 : decode cX2_send 59 = .ok (.iconst 2, 1) := by decide +kernel
theorem dX2_send_60 : decode cX2_send 60 = .ok (.imul, 1) := by decide +kernel
theorem dX2_send_61 : decode cX2_send 61 = .ok (.istore 5, 2) := by decide +kernel
theorem dX2_send_63 : decode cX2_send 63 = .ok (.aload_n 0, 1) := by decide +kernel
theorem dX2_send_64 : decode cX2_send 64 = .ok (.getfield 24, 3) := by decide +kernel
theorem dX2_send_67 : decode cX2_send 67 = .ok (.iload 5, 2) := by decide +kernel
theorem dX2_send_69 : decode cX2_send 69 = .ok (.iadd, 1) := by decide +kernel
theorem dX2_send_70 : decode cX2_send 70 = .ok (.bipush 19, 2) := by decide +kernel
theorem dX2_send_72 : decode cX2_send 72 = .ok (.irem, 1) := by decide +kernel
theorem dX2_send_73 : decode cX2_send 73 = .ok (.bipush 9, 2) := by decide +kernel
theorem dX2_send_75 : decode cX2_send 75 = .ok (.imul, 1) := by decide +kernel
theorem dX2_send_76 : decode cX2_send 76 = .ok (.iload_n 2, 1) := by decide +kernel
theorem dX2_send_77 : decode cX2_send 77 = .ok (.iadd, 1) := by decide +kernel
theorem dX2_send_78 : decode cX2_send 78 = .ok (.istore 6, 2) := by decide +kernel
theorem dX2_send_80 : decode cX2_send 80 = .ok (.aload_n 0, 1) := by decide +kernel
theorem dX2_send_81 : decode cX2_send 81 = .ok (.getfield 58, 3) := by decide +kernel
theorem dX2_send_84 : decode cX2_send 84 = .ok (.iload_n 3, 1) := by decide +kernel
theorem dX2_send_85 : decode cX2_send 85 = .ok (.aaload, 1) := by decide +kernel
theorem dX2_send_86 : decode cX2_send 86 = .ok (.iload 6, 2) := by decide +kernel
theorem dX2_send_88 : decode cX2_send 88 = .ok (.dup2, 1) := by decide +kernel
theorem dX2_send_89 : decode cX2_send 89 = .ok (.iaload, 1) := by decide +kernel
theorem dX2_send_90 : decode cX2_send 90 = .ok (.iconst 1, 1) := by decide +kernel
theorem dX2_send_91 : decode cX2_send 91 = .ok (.iload_n 1, 1) := by decide +kernel
theorem dX2_send_92 : decode cX2_send 92 = .ok (.ishl, 1) := by decide +kernel
theorem dX2_send_93 : decode cX2_send 93 = .ok (.ior, 1) := by decide +kernel
theorem dX2_send_94 : decode cX2_send 94 = .ok (.iastore, 1) := by decide +kernel
theorem dX2_send_95 : decode cX2_send 95 = .ok (.aload_n 0, 1) := by decide +kernel
theorem dX2_send_96 : decode cX2_send 96 = .ok (.getfield 58, 3) := by decide +kernel
theorem dX2_send_99 : decode cX2_send 99 = .ok (.iconst 1, 1) := by decide +kernel
theorem dX2_send_100 : decode cX2_send 100 = .ok (.iload_n 3, 1) := by decide +kernel
theorem dX2_send_101 : decode cX2_send 101 = .ok (.isub, 1) := by decide +kernel
theorem dX2_send_102 : decode cX2_send 102 = .ok (.aaload, 1) := by decide +kernel
theorem dX2_send_103 : decode cX2_send 103 = .ok (.iload 6, 2) := by decide +kernel
theorem dX2_send_105 : decode cX2_send 105 = .ok (.dup2, 1) := by decide +kernel
theorem dX2_send_106 : decode cX2_send 106 = .ok (.iaload, 1) := by decide +kernel
theorem dX2_send_107 : decode cX2_send 107 = .ok (.iconst 1, 1) := by decide +kernel
theorem dX2_send_108 : decode cX2_send 108 = .ok (.iload_n 1, 1) := by decide +kernel
theorem dX2_send_109 : decode cX2_send 109 = .ok (.ishl, 1) := by decide +kernel
theorem dX2_send_110 : decode cX2_send 110 = .ok (.iconst (-1), 1) := by decide +kernel
theorem dX2_send_111 : decode cX2_send 111 = .ok (.ixor, 1) := by decide +kernel
theorem dX2_send_112 : decode cX2_send 112 = .ok (.iand, 1) := by decide +kernel
theorem dX2_send_113 : decode cX2_send 113 = .ok (.iastore, 1) := by decide +kernel
theorem dX2_send_114 : decode cX2_send 114 = .ok (.return_, 1) := by decide +kernel
theorem dX3_init_0 : decode cX3_init 0 = .ok (.aload_n 0, 1) := by decide +kernel
theorem dX3_init_1 : decode cX3_init 1 = .ok (.invokespecial 3, 3) := by decide +kernel
theorem dX3_init_4 : decode cX3_init 4 = .ok (.aload_n 0, 1) := by decide +kernel
theorem dX3_init_5 : decode cX3_init 5 = .ok (.iconst 0, 1) := by decide +kernel
theorem dX3_init_6 : decode cX3_init 6 = .ok (.putfield 9, 3) := by decide +kernel
theorem dX3_init_9 : decode cX3_init 9 = .ok (.aload_n 0, 1) := by decide +kernel
theorem dX3_init_10 : decode cX3_init 10 = .ok (.iconst 0, 1) := by decide +kernel
theorem dX3_init_11 : decode cX3_init 11 = .ok (.putfield 15, 3) := by decide +kernel
theorem dX3_init_14 : decode cX3_init 14 = .ok (.aload_n 0, 1) := by decide +kernel
theorem dX3_init_15 : decode cX3_init 15 = .ok (.iconst 0, 1) := by decide +kernel
theorem dX3_init_16 : decode cX3_init 16 = .ok (.putfield 19, 3) := by decide +kernel
theorem dX3_init_19 : decode cX3_init 19 = .ok (.aload_n 0, 1) := by decide +kernel
theorem dX3_init_20 : decode cX3_init 20 = .ok (.bipush 24, 2) := by decide +kernel
theorem dX3_init_22 : decode cX3_init 22 = .ok (.newarray .long, 2) := by decide +kernel
theorem dX3_init_24 : decode cX3_init 24 = .ok (.putfield 22, 3) := by decide +kernel
theorem dX3_init_27 : decode cX3_init 27 = .ok (.return_, 1) := by decide +kernel
theorem dX3_renew_0 : decode cX3_renew 0 = .ok (.aload_n 0, 1) := by decide +kernel
theorem dX3_renew_1 : decode cX3_renew 1 = .ok (.iconst 1, 1) := by decide +kernel
theorem dX3_renew_2 : decode cX3_renew 2 = .ok (.putfield 9, 3) := by decide +kernel
theorem dX3_renew_5 : decode cX3_renew 5 = .ok (.aload_n 0, 1) := by decide +kernel
theorem dX3_renew_6 : decode cX3_renew 6 = .ok (.iload_n 1, 1) := by decide +kernel
theorem dX3_renew_7 : decode cX3_renew 7 = .ok (.putfield 15, 3) := by decide +kernel
theorem dX3_renew_10 : decode cX3_renew 10 = .ok (.aload_n 0, 1) := by decide +kernel
theorem dX3_renew_11 : decode cX3_renew 11 = .ok (.iload_n 2, 1) := by decide +kernel
theorem dX3_renew_12 : decode cX3_renew 12 = .ok (.putfield 19, 3) := by decide +kernel
theorem dX3_renew_15 : decode cX3_renew 15 = .ok (.aload_n 0, 1) := by decide +kernel
theorem dX3_renew_16 : decode cX3_renew 16 = .ok (.getfield 22, 3) := by decide +kernel
theorem dX3_renew_19 : decode cX3_renew 19 = .ok (.lconst 0, 1) := by decide +kernel
theorem dX3_renew_20 : decode cX3_renew 20 = .ok (.invokestatic 26, 3) := by decide +kernel
theorem dX3_renew_23 : decode cX3_renew 23 = .ok (.return_, 1) := by decide +kernel
theorem dX3_hasRow_0 : decode cX3_hasRow 0 = .ok (.iload_n 2, 1) := by decide +kernel
theorem dX3_hasRow_1 : decode cX3_hasRow 1 = .ok (.ifCond .lt 21, 3) := by decide +kernel
theorem dX3_hasRow_4 : decode cX3_hasRow 4 = .ok (.iload_n 1, 1) := by decide +kernel
theorem dX3_hasRow_5 : decode cX3_hasRow 5 = .ok (.ifCond .lt 17, 3) := by decide +kernel
theorem dX3_hasRow_8 : decode cX3_hasRow 8 = .ok (.iload_n 1, 1) := by decide +kernel
theorem dX3_hasRow_9 : decode cX3_hasRow 9 = .ok (.aload_n 0, 1) := by decide +kernel
theorem dX3_hasRow_10 : decode cX3_hasRow 10 = .ok (.getfield 19, 3) := by decide +kernel
theorem dX3_hasRow_13 : decode cX3_hasRow 13 = .ok (.iload_n 2, 1) := by decide +kernel
theorem dX3_hasRow_14 : decode cX3_hasRow 14 = .ok (.isub, 1) := by decide +kernel
theorem dX3_hasRow_15 : decode cX3_hasRow 15 = .ok (.if_icmp .gt 7, 3) := by decide +kernel
theorem dX3_hasRow_18 : decode cX3_hasRow 18 = .ok (.iconst 1, 1) := by decide +kernel
theorem dX3_hasRow_19 : decode cX3_hasRow 19 = .ok (.goto 4, 3) := by decide +kernel
theorem dX3_hasRow_22 : decode cX3_hasRow 22 = .ok (.iconst 0, 1) := by decide +kernel
theorem dX3_hasRow_23 : decode cX3_hasRow 23 = .ok (.ireturn, 1) := by decide +kernel
theorem dX3_put_0 : decode cX3_put 0 = .ok (.aload_n 0, 1) := by decide +kernel
theorem dX3_put_1 : decode cX3_put 1 = .ok (.getfield 15, 3) := by decide +kernel
theorem dX3_put_4 : decode cX3_put 4 = .ok (.tableswitch 66 0 2 #[28, 41, 54], 28) := by decide +kernel
theorem dX3_put_32 : decode cX3_put 32 = .ok (.aload_n 0, 1) := by decide +kernel
theorem dX3_put_33 : decode cX3_put 33 = .ok (.getfield 22, 3) := by decide +kernel
theorem dX3_put_36 : decode cX3_put 36 = .ok (.iload_n 1, 1) := by decide +kernel
theorem dX3_put_37 : decode cX3_put 37 = .ok (.lload_n 2, 1) := by decide +kernel
theorem dX3_put_38 : decode cX3_put 38 = .ok (.l2i, 1) := by decide +kernel
theorem dX3_put_39 : decode cX3_put 39 = .ok (.i2b, 1) := by decide +kernel
theorem dX3_put_40 : decode cX3_put 40 = .ok (.i2l, 1) := by decide +kernel
theorem dX3_put_41 : decode cX3_put 41 = .ok (.lastore, 1) := by decide +kernel
theorem dX3_put_42 : decode cX3_put 42 = .ok (.goto 35, 3) := by decide +kernel
theorem dX3_put_45 : decode cX3_put 45 = .ok (.aload_n 0, 1) := by decide +kernel
theorem dX3_put_46 : decode cX3_put 46 = .ok (.getfield 22, 3) := by decide +kernel
theorem dX3_put_49 : decode cX3_put 49 = .ok (.iload_n 1, 1) := by decide +kernel
theorem dX3_put_50 : decode cX3_put 50 = .ok (.lload_n 2, 1) := by decide +kernel
theorem dX3_put_51 : decode cX3_put 51 = .ok (.l2i, 1) := by decide +kernel
theorem dX3_put_52 : decode cX3_put 52 = .ok (.i2s, 1) := by decide +kernel
theorem dX3_put_53 : decode cX3_put 53 = .ok (.i2l, 1) := by decide +kernel
theorem dX3_put_54 : decode cX3_put 54 = .ok (.lastore, 1) := by decide +kernel
theorem dX3_put_55 : decode cX3_put 55 = .ok (.goto 22, 3) := by decide +kernel
theorem dX3_put_58 : decode cX3_put 58 = .ok (.aload_n 0, 1) := by decide +kernel
theorem dX3_put_59 : decode cX3_put 59 = .ok (.getfield 22, 3) := by decide +kernel
theorem dX3_put_62 : decode cX3_put 62 = .ok (.iload_n 1, 1) := by decide +kernel
theorem dX3_put_63 : decode cX3_put 63 = .ok (.lload_n 2, 1) := by decide +kernel
theorem dX3_put_64 : decode cX3_put 64 = .ok (.l2i, 1) := by decide +kernel
theorem dX3_put_65 : decode cX3_put 65 = .ok (.i2l, 1) := by decide +kernel
theorem dX3_put_66 : decode cX3_put 66 = .ok (.lastore, 1) := by decide +kernel
theorem dX3_put_67 : decode cX3_put 67 = .ok (.goto 10, 3) := by decide +kernel
