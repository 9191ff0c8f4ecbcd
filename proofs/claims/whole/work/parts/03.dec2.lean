theorem dX7_darkest_34 : decode cX7_darkest 34 = .ok (.iload_n 1, 1) := by decide +kernel
theorem dX7_darkest_35 : decode cX7_darkest 35 = .ok (.ifCond .ne 13, 3) := by decide +kernel
theorem dX7_darkest_38 : decode cX7_darkest 38 = .ok (.aload_n 0, 1) := by decide +kernel
theorem dX7_darkest_39 : decode cX7_darkest 39 = .ok (.getfield 49, 3) := by decide +kernel
theorem dX7_darkest_42 : decode cX7_darkest 42 = .ok (.getfield 212, 3) := by decide +kernel
theorem dX7_darkest_45 : decode cX7_darkest 45 = .ok (.goto 10, 3) := by decide +kernel
theorem dX7_darkest_48 : decode cX7_darkest 48 = .ok (.aload_n 0, 1) := by decide +kernel
theorem dX7_darkest_49 : decode cX7_darkest 49 = .ok (.getfield 49, 3) := by decide +kernel
theorem dX7_darkest_52 : decode cX7_darkest 52 = .ok (.getfield 215, 3) := by decide +kernel
theorem dX7_darkest_55 : decode cX7_darkest 55 = .ok (.ireturn, 1) := by decide +kernel
theorem dX7_holds_0 : decode cX7_holds 0 = .ok (.aload_n 0, 1) := by decide +kernel
theorem dX7_holds_1 : decode cX7_holds 1 = .ok (.iload_n 1, 1) := by decide +kernel
theorem dX7_holds_2 : decode cX7_holds 2 = .ok (.invokevirtual 218, 3) := by decide +kernel
theorem dX7_holds_5 : decode cX7_holds 5 = .ok (.ifCond .ne 5, 3) := by decide +kernel
theorem dX7_holds_8 : decode cX7_holds 8 = .ok (.iconst (-1), 1) := by decide +kernel
theorem dX7_holds_9 : decode cX7_holds 9 = .ok (.ireturn, 1) := by decide +kernel
theorem dX7_holds_10 : decode cX7_holds 10 = .ok (.aload_n 0, 1) := by decide +kernel
theorem dX7_holds_11 : decode cX7_holds 11 = .ok (.getfield 49, 3) := by decide +kernel
theorem dX7_holds_14 : decode cX7_holds 14 = .ok (.iload_n 1, 1) := by decide +kernel
theorem dX7_holds_15 : decode cX7_holds 15 = .ok (.invokevirtual 206, 3) := by decide +kernel
theorem dX7_holds_18 : decode cX7_holds 18 = .ok (.bipush 61, 2) := by decide +kernel
theorem dX7_holds_20 : decode cX7_holds 20 = .ok (.if_icmp .ne 7, 3) := by decide +kernel
theorem dX7_holds_23 : decode cX7_holds 23 = .ok (.iconst 1, 1) := by decide +kernel
theorem dX7_holds_24 : decode cX7_holds 24 = .ok (.goto 4, 3) := by decide +kernel
theorem dX7_holds_27 : decode cX7_holds 27 = .ok (.iconst 0, 1) := by decide +kernel
theorem dX7_holds_28 : decode cX7_holds 28 = .ok (.invokestatic 89, 3) := by decide +kernel
theorem dX7_holds_31 : decode cX7_holds 31 = .ok (.ireturn, 1) := by decide +kernel
theorem dX7_bears_0 : decode cX7_bears 0 = .ok (.aload_n 0, 1) := by decide +kernel
theorem dX7_bears_1 : decode cX7_bears 1 = .ok (.getfield 49, 3) := by decide +kernel
theorem dX7_bears_4 : decode cX7_bears 4 = .ok (.invokevirtual 221, 3) := by decide +kernel
theorem dX7_bears_7 : decode cX7_bears 7 = .ok (.istore_n 1, 1) := by decide +kernel
theorem dX7_bears_8 : decode cX7_bears 8 = .ok (.iload_n 1, 1) := by decide +kernel
theorem dX7_bears_9 : decode cX7_bears 9 = .ok (.ifCond .ge 8, 3) := by decide +kernel
theorem dX7_bears_12 : decode cX7_bears 12 = .ok (.bipush (-4), 2) := by decide +kernel
theorem dX7_bears_14 : decode cX7_bears 14 = .ok (.goto 4, 3) := by decide +kernel
theorem dX7_bears_17 : decode cX7_bears 17 = .ok (.iload_n 1, 1) := by decide +kernel
theorem dX7_bears_18 : decode cX7_bears 18 = .ok (.ireturn, 1) := by decide +kernel
theorem dX7_worst_0 : decode cX7_worst 0 = .ok (.iload_n 1, 1) := by decide +kernel
theorem dX7_worst_1 : decode cX7_worst 1 = .ok (.iconst 0, 1) := by decide +kernel
theorem dX7_worst_2 : decode cX7_worst 2 = .ok (.iconst 1, 1) := by decide +kernel
theorem dX7_worst_3 : decode cX7_worst 3 = .ok (.invokestatic 54, 3) := by decide +kernel
theorem dX7_worst_6 : decode cX7_worst 6 = .ok (.ifCond .ne 5, 3) := by decide +kernel
theorem dX7_worst_9 : decode cX7_worst 9 = .ok (.iconst (-1), 1) := by decide +kernel
theorem dX7_worst_10 : decode cX7_worst 10 = .ok (.ireturn, 1) := by decide +kernel
theorem dX7_worst_11 : decode cX7_worst 11 = .ok (.aload_n 0, 1) := by decide +kernel
theorem dX7_worst_12 : decode cX7_worst 12 = .ok (.getfield 10, 3) := by decide +kernel
theorem dX7_worst_15 : decode cX7_worst 15 = .ok (.getfield 38, 3) := by decide +kernel
theorem dX7_worst_18 : decode cX7_worst 18 = .ok (.getfield 58, 3) := by decide +kernel
theorem dX7_worst_21 : decode cX7_worst 21 = .ok (.iconst 2, 1) := by decide +kernel
theorem dX7_worst_22 : decode cX7_worst 22 = .ok (.if_icmp .ge 6, 3) := by decide +kernel
theorem dX7_worst_25 : decode cX7_worst 25 = .ok (.bipush (-4), 2) := by decide +kernel
theorem dX7_worst_27 : decode cX7_worst 27 = .ok (.ireturn, 1) := by decide +kernel
theorem dX7_worst_28 : decode cX7_worst 28 = .ok (.aload_n 0, 1) := by decide +kernel
theorem dX7_worst_29 : decode cX7_worst 29 = .ok (.getfield 49, 3) := by decide +kernel
theorem dX7_worst_32 : decode cX7_worst 32 = .ok (.invokevirtual 224, 3) := by decide +kernel
theorem dX7_worst_35 : decode cX7_worst 35 = .ok (.iload_n 1, 1) := by decide +kernel
theorem dX7_worst_36 : decode cX7_worst 36 = .ok (.ifCond .ne 13, 3) := by decide +kernel
theorem dX7_worst_39 : decode cX7_worst 39 = .ok (.aload_n 0, 1) := by decide +kernel
theorem dX7_worst_40 : decode cX7_worst 40 = .ok (.getfield 49, 3) := by decide +kernel
theorem dX7_worst_43 : decode cX7_worst 43 = .ok (.getfield 212, 3) := by decide +kernel
theorem dX7_worst_46 : decode cX7_worst 46 = .ok (.goto 10, 3) := by decide +kernel
theorem dX7_worst_49 : decode cX7_worst 49 = .ok (.aload_n 0, 1) := by decide +kernel
theorem dX7_worst_50 : decode cX7_worst 50 = .ok (.getfield 49, 3) := by decide +kernel
theorem dX7_worst_53 : decode cX7_worst 53 = .ok (.getfield 215, 3) := by decide +kernel
theorem dX7_worst_56 : decode cX7_worst 56 = .ok (.ireturn, 1) := by decide +kernel
theorem dX7_least_0 : decode cX7_least 0 = .ok (.iload_n 1, 1) := by decide +kernel
theorem dX7_least_1 : decode cX7_least 1 = .ok (.iconst 0, 1) := by decide +kernel
theorem dX7_least_2 : decode cX7_least 2 = .ok (.iconst 2, 1) := by decide +kernel
theorem dX7_least_3 : decode cX7_least 3 = .ok (.invokestatic 54, 3) := by decide +kernel
theorem dX7_least_6 : decode cX7_least 6 = .ok (.ifCond .eq 13, 3) := by decide +kernel
theorem dX7_least_9 : decode cX7_least 9 = .ok (.iload_n 2, 1) := by decide +kernel
theorem dX7_least_10 : decode cX7_least 10 = .ok (.iconst 0, 1) := by decide +kernel
theorem dX7_least_11 : decode cX7_least 11 = .ok (.bipush 60, 2) := by decide +kernel
theorem dX7_least_13 : decode cX7_least 13 = .ok (.invokestatic 54, 3) := by decide +kernel
theorem dX7_least_16 : decode cX7_least 16 = .ok (.ifCond .ne 5, 3) := by decide +kernel
theorem dX7_least_19 : decode cX7_least 19 = .ok (.iconst (-1), 1) := by decide +kernel
theorem dX7_least_20 : decode cX7_least 20 = .ok (.ireturn, 1) := by decide +kernel
theorem dX7_least_21 : decode cX7_least 21 = .ok (.aload_n 0, 1) := by decide +kernel
theorem dX7_least_22 : decode cX7_least 22 = .ok (.getfield 49, 3) := by decide +kernel
theorem dX7_least_25 : decode cX7_least 25 = .ok (.iload_n 1, 1) := by decide +kernel
theorem dX7_least_26 : decode cX7_least 26 = .ok (.iload_n 2, 1) := by decide +kernel
theorem dX7_least_27 : decode cX7_least 27 = .ok (.invokevirtual 227, 3) := by decide +kernel
theorem dX7_least_30 : decode cX7_least 30 = .ok (.ireturn, 1) := by decide +kernel
theorem dX7_spare_0 : decode cX7_spare 0 = .ok (.aload_n 0, 1) := by decide +kernel
theorem dX7_spare_1 : decode cX7_spare 1 = .ok (.getfield 49, 3) := by decide +kernel
theorem dX7_spare_4 : decode cX7_spare 4 = .ok (.invokevirtual 230, 3) := by decide +kernel
theorem dX7_spare_7 : decode cX7_spare 7 = .ok (.ireturn, 1) := by decide +kernel
theorem dX7_log_0 : decode cX7_log 0 = .ok (.iload_n 1, 1) := by decide +kernel
theorem dX7_log_1 : decode cX7_log 1 = .ok (.iconst 0, 1) := by decide +kernel
theorem dX7_log_2 : decode cX7_log 2 = .ok (.bipush 8, 2) := by decide +kernel
theorem dX7_log_4 : decode cX7_log 4 = .ok (.invokestatic 54, 3) := by decide +kernel
theorem dX7_log_7 : decode cX7_log 7 = .ok (.ifCond .eq 27, 3) := by decide +kernel
theorem dX7_log_10 : decode cX7_log 10 = .ok (.iload_n 2, 1) := by decide +kernel
theorem dX7_log_11 : decode cX7_log 11 = .ok (.iconst 0, 1) := by decide +kernel
theorem dX7_log_12 : decode cX7_log 12 = .ok (.bipush 8, 2) := by decide +kernel
theorem dX7_log_14 : decode cX7_log 14 = .ok (.invokestatic 54, 3) := by decide +kernel
theorem dX7_log_17 : decode cX7_log 17 = .ok (.ifCond .eq 17, 3) := by decide +kernel
theorem dX7_log_20 : decode cX7_log 20 = .ok (.iload_n 1, 1) := by decide +kernel
theorem dX7_log_21 : decode cX7_log 21 = .ok (.iload_n 2, 1) := by decide +kernel
theorem dX7_log_22 : decode cX7_log 22 = .ok (.if_icmp .eq 12, 3) := by decide +kernel
theorem dX7_log_25 : decode cX7_log 25 = .ok (.iload_n 3, 1) := by decide +kernel
theorem dX7_log_26 : decode cX7_log 26 = .ok (.iconst 0, 1) := by decide +kernel
theorem dX7_log_27 : decode cX7_log 27 = .ok (.iconst 1, 1) := by decide +kernel
theorem dX7_log_28 : decode cX7_log 28 = .ok (.invokestatic 54, 3) := by decide +kernel
theorem dX7_log_31 : decode cX7_log 31 = .ok (.ifCond .ne 5, 3) := by decide +kernel
theorem dX7_log_34 : decode cX7_log 34 = .ok (.iconst (-1), 1) := by decide +kernel
theorem dX7_log_35 : decode cX7_log 35 = .ok (.ireturn, 1) := by decide +kernel
theorem dX7_log_36 : decode cX7_log 36 = .ok (.aload_n 0, 1) := by decide +kernel
theorem dX7_log_37 : decode cX7_log 37 = .ok (.getfield 10, 3) := by decide +kernel
theorem dX7_log_40 : decode cX7_log 40 = .ok (.getfield 171, 3) := by decide +kernel
theorem dX7_log_43 : decode cX7_log 43 = .ok (.getfield 175, 3) := by decide +kernel
theorem dX7_log_46 : decode cX7_log 46 = .ok (.bipush 12, 2) := by decide +kernel
theorem dX7_log_48 : decode cX7_log 48 = .ok (.if_icmp .lt 6, 3) := by decide +kernel
theorem dX7_log_51 : decode cX7_log 51 = .ok (.bipush (-3), 2) := by decide +kernel
theorem dX7_log_53 : decode cX7_log 53 = .ok (.ireturn, 1) := by decide +kernel
theorem dX7_log_54 : decode cX7_log 54 = .ok (.aload_n 0, 1) := by decide +kernel
theorem dX7_log_55 : decode cX7_log 55 = .ok (.getfield 10, 3) := by decide +kernel
theorem dX7_log_58 : decode cX7_log 58 = .ok (.getfield 171, 3) := by decide +kernel
theorem dX7_log_61 : decode cX7_log 61 = .ok (.iload_n 1, 1) := by decide +kernel
theorem dX7_log_62 : decode cX7_log 62 = .ok (.iload_n 2, 1) := by decide +kernel
theorem dX7_log_63 : decode cX7_log 63 = .ok (.iload_n 3, 1) := by decide +kernel
theorem dX7_log_64 : decode cX7_log 64 = .ok (.invokevirtual 233, 3) := by decide +kernel
theorem dX7_log_67 : decode cX7_log 67 = .ok (.ireturn, 1) := by decide +kernel
theorem dX7_burn_0 : decode cX7_burn 0 = .ok (.aload_n 0, 1) := by decide +kernel
theorem dX7_burn_1 : decode cX7_burn 1 = .ok (.getfield 10, 3) := by decide +kernel
theorem dX7_burn_4 : decode cX7_burn 4 = .ok (.getfield 171, 3) := by decide +kernel
theorem dX7_burn_7 : decode cX7_burn 7 = .ok (.getfield 175, 3) := by decide +kernel
theorem dX7_burn_10 : decode cX7_burn 10 = .ok (.istore_n 1, 1) := by decide +kernel
theorem dX7_burn_11 : decode cX7_burn 11 = .ok (.aload_n 0, 1) := by decide +kernel
theorem dX7_burn_12 : decode cX7_burn 12 = .ok (.getfield 10, 3) := by decide +kernel
theorem dX7_burn_15 : decode cX7_burn 15 = .ok (.getfield 171, 3) := by decide +kernel
theorem dX7_burn_18 : decode cX7_burn 18 = .ok (.iconst 0, 1) := by decide +kernel
theorem dX7_burn_19 : decode cX7_burn 19 = .ok (.putfield 175, 3) := by decide +kernel
theorem dX7_burn_22 : decode cX7_burn 22 = .ok (.iload_n 1, 1) := by decide +kernel
theorem dX7_burn_23 : decode cX7_burn 23 = .ok (.ireturn, 1) := by decide +kernel
theorem dX7_sure_0 : decode cX7_sure 0 = .ok (.aload_n 0, 1) := by decide +kernel
theorem dX7_sure_1 : decode cX7_sure 1 = .ok (.getfield 10, 3) := by decide +kernel
theorem dX7_sure_4 : decode cX7_sure 4 = .ok (.getfield 171, 3) := by decide +kernel
theorem dX7_sure_7 : decode cX7_sure 7 = .ok (.invokevirtual 235, 3) := by decide +kernel
theorem dX7_sure_10 : decode cX7_sure 10 = .ok (.ireturn, 1) := by decide +kernel
theorem dX7_fits_0 : decode cX7_fits 0 = .ok (.iload_n 1, 1) := by decide +kernel
theorem dX7_fits_1 : decode cX7_fits 1 = .ok (.iconst 0, 1) := by decide +kernel
theorem dX7_fits_2 : decode cX7_fits 2 = .ok (.bipush 9, 2) := by decide +kernel
theorem dX7_fits_4 : decode cX7_fits 4 = .ok (.invokestatic 54, 3) := by decide +kernel
theorem dX7_fits_7 : decode cX7_fits 7 = .ok (.ifCond .ne 5, 3) := by decide +kernel
theorem dX7_fits_10 : decode cX7_fits 10 = .ok (.iconst (-1), 1) := by decide +kernel
theorem dX7_fits_11 : decode cX7_fits 11 = .ok (.ireturn, 1) := by decide +kernel
theorem dX7_fits_12 : decode cX7_fits 12 = .ok (.aload_n 0, 1) := by decide +kernel
theorem dX7_fits_13 : decode cX7_fits 13 = .ok (.getfield 10, 3) := by decide +kernel
theorem dX7_fits_16 : decode cX7_fits 16 = .ok (.getfield 171, 3) := by decide +kernel
theorem dX7_fits_19 : decode cX7_fits 19 = .ok (.invokevirtual 235, 3) := by decide +kernel
theorem dX7_fits_22 : decode cX7_fits 22 = .ok (.istore_n 2, 1) := by decide +kernel
theorem dX7_fits_23 : decode cX7_fits 23 = .ok (.aload_n 0, 1) := by decide +kernel
theorem dX7_fits_24 : decode cX7_fits 24 = .ok (.iload_n 2, 1) := by decide +kernel
theorem dX7_fits_25 : decode cX7_fits 25 = .ok (.invokevirtual 218, 3) := by decide +kernel
theorem dX7_fits_28 : decode cX7_fits 28 = .ok (.ifCond .ne 5, 3) := by decide +kernel
theorem dX7_fits_31 : decode cX7_fits 31 = .ok (.iconst 0, 1) := by decide +kernel
theorem dX7_fits_32 : decode cX7_fits 32 = .ok (.ireturn, 1) := by decide +kernel
theorem dX7_fits_33 : decode cX7_fits 33 = .ok (.iload_n 2, 1) := by decide +kernel
theorem dX7_fits_34 : decode cX7_fits 34 = .ok (.invokestatic 238, 3) := by decide +kernel
theorem dX7_fits_37 : decode cX7_fits 37 = .ok (.istore_n 3, 1) := by decide +kernel
theorem dX7_fits_38 : decode cX7_fits 38 = .ok (.aload_n 0, 1) := by decide +kernel
theorem dX7_fits_39 : decode cX7_fits 39 = .ok (.getfield 10, 3) := by decide +kernel
theorem dX7_fits_42 : decode cX7_fits 42 = .ok (.getfield 38, 3) := by decide +kernel
theorem dX7_fits_45 : decode cX7_fits 45 = .ok (.getfield 58, 3) := by decide +kernel
theorem dX7_fits_48 : decode cX7_fits 48 = .ok (.iload_n 3, 1) := by decide +kernel
theorem dX7_fits_49 : decode cX7_fits 49 = .ok (.isub, 1) := by decide +kernel
theorem dX7_fits_50 : decode cX7_fits 50 = .ok (.iload_n 1, 1) := by decide +kernel
theorem dX7_fits_51 : decode cX7_fits 51 = .ok (.iload_n 3, 1) := by decide +kernel
theorem dX7_fits_52 : decode cX7_fits 52 = .ok (.isub, 1) := by decide +kernel
theorem dX7_fits_53 : decode cX7_fits 53 = .ok (.invokestatic 243, 3) := by decide +kernel
theorem dX7_fits_56 : decode cX7_fits 56 = .ok (.ireturn, 1) := by decide +kernel
theorem dX7_ask_0 : decode cX7_ask 0 = .ok (.aload_n 0, 1) := by decide +kernel
theorem dX7_ask_1 : decode cX7_ask 1 = .ok (.getfield 10, 3) := by decide +kernel
theorem dX7_ask_4 : decode cX7_ask 4 = .ok (.getfield 171, 3) := by decide +kernel
theorem dX7_ask_7 : decode cX7_ask 7 = .ok (.aload_n 0, 1) := by decide +kernel
theorem dX7_ask_8 : decode cX7_ask 8 = .ok (.getfield 10, 3) := by decide +kernel
theorem dX7_ask_11 : decode cX7_ask 11 = .ok (.getfield 38, 3) := by decide +kernel
theorem dX7_ask_14 : decode cX7_ask 14 = .ok (.getfield 58, 3) := by decide +kernel
theorem dX7_ask_17 : decode cX7_ask 17 = .ok (.invokevirtual 246, 3) := by decide +kernel
theorem dX7_ask_20 : decode cX7_ask 20 = .ok (.ireturn, 1) := by decide +kernel
theorem dX7_ship_0 : decode cX7_ship 0 = .ok (.aload_n 0, 1) := by decide +kernel
theorem dX7_ship_1 : decode cX7_ship 1 = .ok (.iload_n 1, 1) := by decide +kernel
theorem dX7_ship_2 : decode cX7_ship 2 = .ok (.invokevirtual 218, 3) := by decide +kernel
theorem dX7_ship_5 : decode cX7_ship 5 = .ok (.ifCond .eq 12, 3) := by decide +kernel
theorem dX7_ship_8 : decode cX7_ship 8 = .ok (.iload_n 2, 1) := by decide +kernel
theorem dX7_ship_9 : decode cX7_ship 9 = .ok (.iconst 0, 1) := by decide +kernel
theorem dX7_ship_10 : decode cX7_ship 10 = .ok (.iconst 4, 1) := by decide +kernel
theorem dX7_ship_11 : decode cX7_ship 11 = .ok (.invokestatic 54, 3) := by decide +kernel
theorem dX7_ship_14 : decode cX7_ship 14 = .ok (.ifCond .ne 5, 3) := by decide +kernel
theorem dX7_ship_17 : decode cX7_ship 17 = .ok (.iconst (-1), 1) := by decide +kernel
theorem dX7_ship_18 : decode cX7_ship 18 = .ok (.ireturn, 1) := by decide +kernel
theorem dX7_ship_19 : decode cX7_ship 19 = .ok (.aload_n 0, 1) := by decide +kernel
theorem dX7_ship_20 : decode cX7_ship 20 = .ok (.getfield 10, 3) := by decide +kernel
theorem dX7_ship_23 : decode cX7_ship 23 = .ok (.getfield 38, 3) := by decide +kernel
theorem dX7_ship_26 : decode cX7_ship 26 = .ok (.iload_n 1, 1) := by decide +kernel
theorem dX7_ship_27 : decode cX7_ship 27 = .ok (.iconst 0, 1) := by decide +kernel
theorem dX7_ship_28 : decode cX7_ship 28 = .ok (.invokevirtual 249, 3) := by decide +kernel
theorem dX7_ship_31 : decode cX7_ship 31 = .ok (.istore_n 3, 1) := by decide +kernel
theorem dX7_ship_32 : decode cX7_ship 32 = .ok (.aload_n 0, 1) := by decide +kernel
theorem dX7_ship_33 : decode cX7_ship 33 = .ok (.getfield 10, 3) := by decide +kernel
theorem dX7_ship_36 : decode cX7_ship 36 = .ok (.getfield 38, 3) := by decide +kernel
theorem dX7_ship_39 : decode cX7_ship 39 = .ok (.iload_n 1, 1) := by decide +kernel
theorem dX7_ship_40 : decode cX7_ship 40 = .ok (.iconst 1, 1) := by decide +kernel
theorem dX7_ship_41 : decode cX7_ship 41 = .ok (.invokevirtual 249, 3) := by decide +kernel
theorem dX7_ship_44 : decode cX7_ship 44 = .ok (.istore 4, 2) := by decide +kernel
theorem dX7_ship_46 : decode cX7_ship 46 = .ok (.iload_n 3, 1) := by decide +kernel
theorem dX7_ship_47 : decode cX7_ship 47 = .ok (.iload_n 2, 1) := by decide +kernel
theorem dX7_ship_48 : decode cX7_ship 48 = .ok (.if_icmp .le 11, 3) := by decide +kernel
theorem dX7_ship_51 : decode cX7_ship 51 = .ok (.iload 4, 2) := by decide +kernel
theorem dX7_ship_53 : decode cX7_ship 53 = .ok (.iload_n 2, 1) := by decide +kernel
theorem dX7_ship_54 : decode cX7_ship 54 = .ok (.if_icmp .gt 5, 3) := by decide +kernel
theorem dX7_ship_57 : decode cX7_ship 57 = .ok (.iconst 0, 1) := by decide +kernel
theorem dX7_ship_58 : decode cX7_ship 58 = .ok (.ireturn, 1) := by decide +kernel
theorem dX7_ship_59 : decode cX7_ship 59 = .ok (.iload 4, 2) := by decide +kernel
theorem dX7_ship_61 : decode cX7_ship 61 = .ok (.iload_n 2, 1) := by decide +kernel
theorem dX7_ship_62 : decode cX7_ship 62 = .ok (.if_icmp .le 12, 3) := by decide +kernel
theorem dX7_ship_65 : decode cX7_ship 65 = .ok (.iload_n 3, 1) := by decide +kernel
theorem dX7_ship_66 : decode cX7_ship 66 = .ok (.iload_n 2, 1) := by decide +kernel
theorem dX7_ship_67 : decode cX7_ship 67 = .ok (.if_icmp .gt 7, 3) := by decide +kernel
theorem dX7_ship_70 : decode cX7_ship 70 = .ok (.iconst 1, 1) := by decide +kernel
theorem dX7_ship_71 : decode cX7_ship 71 = .ok (.goto 5, 3) := by decide +kernel
theorem dX7_ship_74 : decode cX7_ship 74 = .ok (.bipush (-4), 2) := by decide +kernel
theorem dX7_ship_76 : decode cX7_ship 76 = .ok (.ireturn, 1) := by decide +kernel
theorem dX7_image_0 : decode cX7_image 0 = .ok (.aload_n 0, 1) := by decide +kernel
theorem dX7_image_1 : decode cX7_image 1 = .ok (.getfield 16, 3) := by decide +kernel
theorem dX7_image_4 : decode cX7_image 4 = .ok (.aload_n 0, 1) := by decide +kernel
theorem dX7_image_5 : decode cX7_image 5 = .ok (.getfield 10, 3) := by decide +kernel
theorem dX7_image_8 : decode cX7_image 8 = .ok (.invokevirtual 252, 3) := by decide +kernel
theorem dX7_image_11 : decode cX7_image 11 = .ok (.aload_n 0, 1) := by decide +kernel
theorem dX7_image_12 : decode cX7_image 12 = .ok (.iconst 1, 1) := by decide +kernel
theorem dX7_image_13 : decode cX7_image 13 = .ok (.putfield 19, 3) := by decide +kernel
theorem dX7_image_16 : decode cX7_image 16 = .ok (.iconst 1, 1) := by decide +kernel
theorem dX7_image_17 : decode cX7_image 17 = .ok (.ireturn, 1) := by decide +kernel
theorem dX7_restore_0 : decode cX7_restore 0 = .ok (.aload_n 0, 1) := by decide +kernel
theorem dX7_restore_1 : decode cX7_restore 1 = .ok (.getfield 19, 3) := by decide +kernel
theorem dX7_restore_4 : decode cX7_restore 4 = .ok (.ifCond .ne 6, 3) := by decide +kernel
theorem dX7_restore_7 : decode cX7_restore 7 = .ok (.bipush (-4), 2) := by decide +kernel
theorem dX7_restore_9 : decode cX7_restore 9 = .ok (.ireturn, 1) := by decide +kernel
theorem dX7_restore_10 : decode cX7_restore 10 = .ok (.aload_n 0, 1) := by decide +kernel
theorem dX7_restore_11 : decode cX7_restore 11 = .ok (.getfield 10, 3) := by decide +kernel
theorem dX7_restore_14 : decode cX7_restore 14 = .ok (.aload_n 0, 1) := by decide +kernel
theorem dX7_restore_15 : decode cX7_restore 15 = .ok (.getfield 16, 3) := by decide +kernel
theorem dX7_restore_18 : decode cX7_restore 18 = .ok (.invokevirtual 252, 3) := by decide +kernel
theorem dX7_restore_21 : decode cX7_restore 21 = .ok (.iconst 1, 1) := by decide +kernel
theorem dX7_restore_22 : decode cX7_restore 22 = .ok (.ireturn, 1) := by decide +kernel
theorem dX7_delays_0 : decode cX7_delays 0 = .ok (.aload_n 0, 1) := by decide +kernel
theorem dX7_delays_1 : decode cX7_delays 1 = .ok (.iload_n 1, 1) := by decide +kernel
theorem dX7_delays_2 : decode cX7_delays 2 = .ok (.invokevirtual 72, 3) := by decide +kernel
theorem dX7_delays_5 : decode cX7_delays 5 = .ok (.ifCond .ne 5, 3) := by decide +kernel
theorem dX7_delays_8 : decode cX7_delays 8 = .ok (.iconst (-1), 1) := by decide +kernel
theorem dX7_delays_9 : decode cX7_delays 9 = .ok (.ireturn, 1) := by decide +kernel
theorem dX7_delays_10 : decode cX7_delays 10 = .ok (.aload_n 0, 1) := by decide +kernel
theorem dX7_delays_11 : decode cX7_delays 11 = .ok (.iload_n 2, 1) := by decide +kernel
theorem dX7_delays_12 : decode cX7_delays 12 = .ok (.iload_n 3, 1) := by decide +kernel
theorem dX7_delays_13 : decode cX7_delays 13 = .ok (.iload 4, 2) := by decide +kernel
theorem dX7_delays_15 : decode cX7_delays 15 = .ok (.aload_n 0, 1) := by decide +kernel
theorem dX7_delays_16 : decode cX7_delays 16 = .ok (.getfield 10, 3) := by decide +kernel
theorem dX7_delays_19 : decode cX7_delays 19 = .ok (.getfield 38, 3) := by decide +kernel
theorem dX7_delays_22 : decode cX7_delays 22 = .ok (.getfield 58, 3) := by decide +kernel
theorem dX7_delays_25 : decode cX7_delays 25 = .ok (.invokevirtual 255, 3) := by decide +kernel
theorem dX7_delays_28 : decode cX7_delays 28 = .ok (.istore 5, 2) := by decide +kernel
theorem dX7_delays_30 : decode cX7_delays 30 = .ok (.iload 5, 2) := by decide +kernel
theorem dX7_delays_32 : decode cX7_delays 32 = .ok (.ifCond .eq 6, 3) := by decide +kernel
theorem dX7_delays_35 : decode cX7_delays 35 = .ok (.iload 5, 2) := by decide +kernel
theorem dX7_delays_37 : decode cX7_delays 37 = .ok (.ireturn, 1) := by decide +kernel
theorem dX7_delays_38 : decode cX7_delays 38 = .ok (.aload_n 0, 1) := by decide +kernel
theorem dX7_delays_39 : decode cX7_delays 39 = .ok (.getfield 32, 3) := by decide +kernel
theorem dX7_delays_42 : decode cX7_delays 42 = .ok (.iload_n 2, 1) := by decide +kernel
theorem dX7_delays_43 : decode cX7_delays 43 = .ok (.aaload, 1) := by decide +kernel
theorem dX7_delays_44 : decode cX7_delays 44 = .ok (.getfield 258, 3) := by decide +kernel
theorem dX7_delays_47 : decode cX7_delays 47 = .ok (.astore 6, 2) := by decide +kernel
theorem dX7_delays_49 : decode cX7_delays 49 = .ok (.iconst 0, 1) := by decide +kernel
theorem dX7_delays_50 : decode cX7_delays 50 = .ok (.istore 7, 2) := by decide +kernel
theorem dX7_delays_52 : decode cX7_delays 52 = .ok (.iload 7, 2) := by decide +kernel
theorem dX7_delays_54 : decode cX7_delays 54 = .ok (.aload_n 0, 1) := by decide +kernel
theorem dX7_delays_55 : decode cX7_delays 55 = .ok (.getfield 10, 3) := by decide +kernel
theorem dX7_delays_58 : decode cX7_delays 58 = .ok (.getfield 38, 3) := by decide +kernel
theorem dX7_delays_61 : decode cX7_delays 61 = .ok (.getfield 58, 3) := by decide +kernel
theorem dX7_delays_64 : decode cX7_delays 64 = .ok (.if_icmp .ge 44, 3) := by decide +kernel
theorem dX7_delays_67 : decode cX7_delays 67 = .ok (.aload 6, 2) := by decide +kernel
theorem dX7_delays_69 : decode cX7_delays 69 = .ok (.iload 4, 2) := by decide +kernel
theorem dX7_delays_71 : decode cX7_delays 71 = .ok (.iload 7, 2) := by decide +kernel
theorem dX7_delays_73 : decode cX7_delays 73 = .ok (.iadd, 1) := by decide +kernel
theorem dX7_delays_74 : decode cX7_delays 74 = .ok (.laload, 1) := by decide +kernel
theorem dX7_delays_75 : decode cX7_delays 75 = .ok (.lstore 8, 2) := by decide +kernel
theorem dX7_delays_77 : decode cX7_delays 77 = .ok (.iload 7, 2) := by decide +kernel
theorem dX7_delays_79 : decode cX7_delays 79 = .ok (.iload_n 1, 1) := by decide +kernel
theorem dX7_delays_80 : decode cX7_delays 80 = .ok (.if_icmp .eq 22, 3) := by decide +kernel
theorem dX7_delays_83 : decode cX7_delays 83 = .ok (.lload 8, 2) := by decide +kernel
theorem dX7_delays_85 : decode cX7_delays 85 = .ok (.lconst 1, 1) := by decide +kernel
theorem dX7_delays_86 : decode cX7_delays 86 = .ok (.lcmp, 1) := by decide +kernel
theorem dX7_delays_87 : decode cX7_delays 87 = .ok (.ifCond .lt 12, 3) := by decide +kernel
theorem dX7_delays_90 : decode cX7_delays 90 = .ok (.lload 8, 2) := by decide +kernel
theorem dX7_delays_92 : decode cX7_delays 92 = .ok (.ldc2_w 262, 3) := by decide +kernel
theorem dX7_delays_95 : decode cX7_delays 95 = .ok (.lcmp, 1) := by decide +kernel
theorem dX7_delays_96 : decode cX7_delays 96 = .ok (.ifCond .le 6, 3) := by decide +kernel
theorem dX7_delays_99 : decode cX7_delays 99 = .ok (.bipush (-2), 2) := by decide +kernel
theorem dX7_delays_101 : decode cX7_delays 101 = .ok (.ireturn, 1) := by decide +kernel
theorem dX7_delays_102 : decode cX7_delays 102 = .ok (.iinc 7 1, 3) := by decide +kernel
theorem dX7_delays_105 : decode cX7_delays 105 = .ok (.goto (-53), 3) := by decide +kernel
theorem dX7_delays_108 : decode cX7_delays 108 = .ok (.iconst 0, 1) := by decide +kernel
theorem dX7_delays_109 : decode cX7_delays 109 = .ok (.istore 7, 2) := by decide +kernel
theorem dX7_delays_111 : decode cX7_delays 111 = .ok (.iload 7, 2) := by decide +kernel
theorem dX7_delays_113 : decode cX7_delays 113 = .ok (.aload_n 0, 1) := by decide +kernel
theorem dX7_delays_114 : decode cX7_delays 114 = .ok (.getfield 10, 3) := by decide +kernel
theorem dX7_delays_117 : decode cX7_delays 117 = .ok (.getfield 38, 3) := by decide +kernel
theorem dX7_delays_120 : decode cX7_delays 120 = .ok (.getfield 58, 3) := by decide +kernel
theorem dX7_delays_123 : decode cX7_delays 123 = .ok (.if_icmp .ge 39, 3) := by decide +kernel
theorem dX7_delays_126 : decode cX7_delays 126 = .ok (.iload 7, 2) := by decide +kernel
theorem dX7_delays_128 : decode cX7_delays 128 = .ok (.iload_n 1, 1) := by decide +kernel
theorem dX7_delays_129 : decode cX7_delays 129 = .ok (.if_icmp .eq 27, 3) := by decide +kernel
theorem dX7_delays_132 : decode cX7_delays 132 = .ok (.aload_n 0, 1) := by decide +kernel
theorem dX7_delays_133 : decode cX7_delays 133 = .ok (.getfield 10, 3) := by decide +kernel
theorem dX7_delays_136 : decode cX7_delays 136 = .ok (.getfield 38, 3) := by decide +kernel
theorem dX7_delays_139 : decode cX7_delays 139 = .ok (.getfield 97, 3) := by decide +kernel
theorem dX7_delays_142 : decode cX7_delays 142 = .ok (.iload_n 1, 1) := by decide +kernel
theorem dX7_delays_143 : decode cX7_delays 143 = .ok (.aaload, 1) := by decide +kernel
theorem dX7_delays_144 : decode cX7_delays 144 = .ok (.iload 7, 2) := by decide +kernel
theorem dX7_delays_146 : decode cX7_delays 146 = .ok (.aload 6, 2) := by decide +kernel
theorem dX7_delays_148 : decode cX7_delays 148 = .ok (.iload 4, 2) := by decide +kernel
theorem dX7_delays_150 : decode cX7_delays 150 = .ok (.iload 7, 2) := by decide +kernel
theorem dX7_delays_152 : decode cX7_delays 152 = .ok (.iadd, 1) := by decide +kernel
theorem dX7_delays_153 : decode cX7_delays 153 = .ok (.laload, 1) := by decide +kernel
theorem dX7_delays_154 : decode cX7_delays 154 = .ok (.l2i, 1) := by decide +kernel
theorem dX7_delays_155 : decode cX7_delays 155 = .ok (.iastore, 1) := by decide +kernel
theorem dX7_delays_156 : decode cX7_delays 156 = .ok (.iinc 7 1, 3) := by decide +kernel
theorem dX7_delays_159 : decode cX7_delays 159 = .ok (.goto (-48), 3) := by decide +kernel
theorem dX7_delays_162 : decode cX7_delays 162 = .ok (.aload_n 0, 1) := by decide +kernel
theorem dX7_delays_163 : decode cX7_delays 163 = .ok (.getfield 10, 3) := by decide +kernel
theorem dX7_delays_166 : decode cX7_delays 166 = .ok (.getfield 38, 3) := by decide +kernel
theorem dX7_delays_169 : decode cX7_delays 169 = .ok (.getfield 58, 3) := by decide +kernel
theorem dX7_delays_172 : decode cX7_delays 172 = .ok (.ireturn, 1) := by decide +kernel
theorem dX7_film_0 : decode cX7_film 0 = .ok (.aload_n 0, 1) := by decide +kernel
theorem dX7_film_1 : decode cX7_film 1 = .ok (.iload_n 1, 1) := by decide +kernel
theorem dX7_film_2 : decode cX7_film 2 = .ok (.iload_n 2, 1) := by decide +kernel
theorem dX7_film_3 : decode cX7_film 3 = .ok (.iload_n 3, 1) := by decide +kernel
theorem dX7_film_4 : decode cX7_film 4 = .ok (.aload_n 0, 1) := by decide +kernel
theorem dX7_film_5 : decode cX7_film 5 = .ok (.getfield 10, 3) := by decide +kernel
theorem dX7_film_8 : decode cX7_film 8 = .ok (.getfield 38, 3) := by decide +kernel
theorem dX7_film_11 : decode cX7_film 11 = .ok (.getfield 58, 3) := by decide +kernel
theorem dX7_film_14 : decode cX7_film 14 = .ok (.invokevirtual 255, 3) := by decide +kernel
theorem dX7_film_17 : decode cX7_film 17 = .ok (.istore 4, 2) := by decide +kernel
theorem dX7_film_19 : decode cX7_film 19 = .ok (.iload 4, 2) := by decide +kernel
theorem dX7_film_21 : decode cX7_film 21 = .ok (.ifCond .eq 6, 3) := by decide +kernel
theorem dX7_film_24 : decode cX7_film 24 = .ok (.iload 4, 2) := by decide +kernel
theorem dX7_film_26 : decode cX7_film 26 = .ok (.ireturn, 1) := by decide +kernel
theorem dX7_film_27 : decode cX7_film 27 = .ok (.iconst 0, 1) := by decide +kernel
theorem dX7_film_28 : decode cX7_film 28 = .ok (.istore 5, 2) := by decide +kernel
theorem dX7_film_30 : decode cX7_film 30 = .ok (.iload 5, 2) := by decide +kernel
theorem dX7_film_32 : decode cX7_film 32 = .ok (.aload_n 0, 1) := by decide +kernel
theorem dX7_film_33 : decode cX7_film 33 = .ok (.getfield 10, 3) := by decide +kernel
theorem dX7_film_36 : decode cX7_film 36 = .ok (.getfield 38, 3) := by decide +kernel
theorem dX7_film_39 : decode cX7_film 39 = .ok (.getfield 58, 3) := by decide +kernel
theorem dX7_film_42 : decode cX7_film 42 = .ok (.if_icmp .ge 37, 3) := by decide +kernel
theorem dX7_film_45 : decode cX7_film 45 = .ok (.aload_n 0, 1) := by decide +kernel
theorem dX7_film_46 : decode cX7_film 46 = .ok (.getfield 32, 3) := by decide +kernel
theorem dX7_film_49 : decode cX7_film 49 = .ok (.iload_n 1, 1) := by decide +kernel
theorem dX7_film_50 : decode cX7_film 50 = .ok (.aaload, 1) := by decide +kernel
theorem dX7_film_51 : decode cX7_film 51 = .ok (.getfield 258, 3) := by decide +kernel
theorem dX7_film_54 : decode cX7_film 54 = .ok (.iload_n 3, 1) := by decide +kernel
theorem dX7_film_55 : decode cX7_film 55 = .ok (.iload 5, 2) := by decide +kernel
theorem dX7_film_57 : decode cX7_film 57 = .ok (.iadd, 1) := by decide +kernel
theorem dX7_film_58 : decode cX7_film 58 = .ok (.aload_n 0, 1) := by decide +kernel
theorem dX7_film_59 : decode cX7_film 59 = .ok (.getfield 10, 3) := by decide +kernel
theorem dX7_film_62 : decode cX7_film 62 = .ok (.getfield 38, 3) := by decide +kernel
theorem dX7_film_65 : decode cX7_film 65 = .ok (.getfield 105, 3) := by decide +kernel
theorem dX7_film_68 : decode cX7_film 68 = .ok (.iload 5, 2) := by decide +kernel
theorem dX7_film_70 : decode cX7_film 70 = .ok (.iaload, 1) := by decide +kernel
theorem dX7_film_71 : decode cX7_film 71 = .ok (.i2l, 1) := by decide +kernel
theorem dX7_film_72 : decode cX7_film 72 = .ok (.lastore, 1) := by decide +kernel
theorem dX7_film_73 : decode cX7_film 73 = .ok (.iinc 5 1, 3) := by decide +kernel
theorem dX7_film_76 : decode cX7_film 76 = .ok (.goto (-46), 3) := by decide +kernel
theorem dX7_film_79 : decode cX7_film 79 = .ok (.aload_n 0, 1) := by decide +kernel
theorem dX7_film_80 : decode cX7_film 80 = .ok (.getfield 10, 3) := by decide +kernel
theorem dX7_film_83 : decode cX7_film 83 = .ok (.getfield 38, 3) := by decide +kernel
theorem dX7_film_86 : decode cX7_film 86 = .ok (.getfield 58, 3) := by decide +kernel
theorem dX7_film_89 : decode cX7_film 89 = .ok (.ireturn, 1) := by decide +kernel
theorem dX7_seen_0 : decode cX7_seen 0 = .ok (.aload_n 0, 1) := by decide +kernel
theorem dX7_seen_1 : decode cX7_seen 1 = .ok (.iload_n 1, 1) := by decide +kernel
theorem dX7_seen_2 : decode cX7_seen 2 = .ok (.iload_n 2, 1) := by decide +kernel
theorem dX7_seen_3 : decode cX7_seen 3 = .ok (.iload_n 3, 1) := by decide +kernel
theorem dX7_seen_4 : decode cX7_seen 4 = .ok (.aload_n 0, 1) := by decide +kernel
theorem dX7_seen_5 : decode cX7_seen 5 = .ok (.getfield 10, 3) := by decide +kernel
theorem dX7_seen_8 : decode cX7_seen 8 = .ok (.getfield 38, 3) := by decide +kernel
theorem dX7_seen_11 : decode cX7_seen 11 = .ok (.getfield 58, 3) := by decide +kernel
theorem dX7_seen_14 : decode cX7_seen 14 = .ok (.invokevirtual 255, 3) := by decide +kernel
theorem dX7_seen_17 : decode cX7_seen 17 = .ok (.istore 4, 2) := by decide +kernel
theorem dX7_seen_19 : decode cX7_seen 19 = .ok (.iload 4, 2) := by decide +kernel
theorem dX7_seen_21 : decode cX7_seen 21 = .ok (.ifCond .eq 6, 3) := by decide +kernel
theorem dX7_seen_24 : decode cX7_seen 24 = .ok (.iload 4, 2) := by decide +kernel
theorem dX7_seen_26 : decode cX7_seen 26 = .ok (.ireturn, 1) := by decide +kernel
theorem dX7_seen_27 : decode cX7_seen 27 = .ok (.aload_n 0, 1) := by decide +kernel
theorem dX7_seen_28 : decode cX7_seen 28 = .ok (.getfield 49, 3) := by decide +kernel
theorem dX7_seen_31 : decode cX7_seen 31 = .ok (.aload_n 0, 1) := by decide +kernel
theorem dX7_seen_32 : decode cX7_seen 32 = .ok (.getfield 32, 3) := by decide +kernel
theorem dX7_seen_35 : decode cX7_seen 35 = .ok (.iload_n 1, 1) := by decide +kernel
theorem dX7_seen_36 : decode cX7_seen 36 = .ok (.aaload, 1) := by decide +kernel
theorem dX7_seen_37 : decode cX7_seen 37 = .ok (.getfield 258, 3) := by decide +kernel
theorem dX7_seen_40 : decode cX7_seen 40 = .ok (.iload_n 3, 1) := by decide +kernel
theorem dX7_seen_41 : decode cX7_seen 41 = .ok (.invokevirtual 264, 3) := by decide +kernel
theorem dX7_seen_44 : decode cX7_seen 44 = .ok (.istore 5, 2) := by decide +kernel
theorem dX7_seen_46 : decode cX7_seen 46 = .ok (.iload 5, 2) := by decide +kernel
theorem dX7_seen_48 : decode cX7_seen 48 = .ok (.bipush 61, 2) := by decide +kernel
theorem dX7_seen_50 : decode cX7_seen 50 = .ok (.if_icmp .ne 8, 3) := by decide +kernel
theorem dX7_seen_53 : decode cX7_seen 53 = .ok (.bipush (-4), 2) := by decide +kernel
theorem dX7_seen_55 : decode cX7_seen 55 = .ok (.goto 5, 3) := by decide +kernel
theorem dX7_seen_58 : decode cX7_seen 58 = .ok (.iload 5, 2) := by decide +kernel
theorem dX7_seen_60 : decode cX7_seen 60 = .ok (.ireturn, 1) := by decide +kernel
theorem dX7_sheet_0 : decode cX7_sheet 0 = .ok (.iload_n 1, 1) := by decide +kernel
theorem dX7_sheet_1 : decode cX7_sheet 1 = .ok (.iconst 0, 1) := by decide +kernel
theorem dX7_sheet_2 : decode cX7_sheet 2 = .ok (.iconst 3, 1) := by decide +kernel
theorem dX7_sheet_3 : decode cX7_sheet 3 = .ok (.invokestatic 54, 3) := by decide +kernel
theorem dX7_sheet_6 : decode cX7_sheet 6 = .ok (.ifCond .eq 18, 3) := by decide +kernel
theorem dX7_sheet_9 : decode cX7_sheet 9 = .ok (.iload_n 2, 1) := by decide +kernel
theorem dX7_sheet_10 : decode cX7_sheet 10 = .ok (.iconst 0, 1) := by decide +kernel
theorem dX7_sheet_11 : decode cX7_sheet 11 = .ok (.iconst 3, 1) := by decide +kernel
theorem dX7_sheet_12 : decode cX7_sheet 12 = .ok (.invokestatic 54, 3) := by decide +kernel
theorem dX7_sheet_15 : decode cX7_sheet 15 = .ok (.ifCond .eq 9, 3) := by decide +kernel
theorem dX7_sheet_18 : decode cX7_sheet 18 = .ok (.iload_n 3, 1) := by decide +kernel
theorem dX7_sheet_19 : decode cX7_sheet 19 = .ok (.bipush 24, 2) := by decide +kernel
theorem dX7_sheet_21 : decode cX7_sheet 21 = .ok (.if_icmp .le 5, 3) := by decide +kernel
theorem dX7_sheet_24 : decode cX7_sheet 24 = .ok (.iconst (-1), 1) := by decide +kernel
theorem dX7_sheet_25 : decode cX7_sheet 25 = .ok (.ireturn, 1) := by decide +kernel
theorem dX7_sheet_26 : decode cX7_sheet 26 = .ok (.iload_n 3, 1) := by decide +kernel
theorem dX7_sheet_27 : decode cX7_sheet 27 = .ok (.ifCond .ge 6, 3) := by decide +kernel
theorem dX7_sheet_30 : decode cX7_sheet 30 = .ok (.bipush (-14), 2) := by decide +kernel
theorem dX7_sheet_32 : decode cX7_sheet 32 = .ok (.ireturn, 1) := by decide +kernel
theorem dX7_sheet_33 : decode cX7_sheet 33 = .ok (.aload_n 0, 1) := by decide +kernel
theorem dX7_sheet_34 : decode cX7_sheet 34 = .ok (.getfield 32, 3) := by decide +kernel
theorem dX7_sheet_37 : decode cX7_sheet 37 = .ok (.iload_n 1, 1) := by decide +kernel
theorem dX7_sheet_38 : decode cX7_sheet 38 = .ok (.aaload, 1) := by decide +kernel
theorem dX7_sheet_39 : decode cX7_sheet 39 = .ok (.iload_n 2, 1) := by decide +kernel
theorem dX7_sheet_40 : decode cX7_sheet 40 = .ok (.iload_n 3, 1) := by decide +kernel
theorem dX7_sheet_41 : decode cX7_sheet 41 = .ok (.invokevirtual 268, 3) := by decide +kernel
theorem dX7_sheet_44 : decode cX7_sheet 44 = .ok (.iload_n 3, 1) := by decide +kernel
theorem dX7_sheet_45 : decode cX7_sheet 45 = .ok (.ireturn, 1) := by decide +kernel
theorem dX7_drop_0 : decode cX7_drop 0 = .ok (.iload_n 1, 1) := by decide +kernel
theorem dX7_drop_1 : decode cX7_drop 1 = .ok (.iconst 0, 1) := by decide +kernel
theorem dX7_drop_2 : decode cX7_drop 2 = .ok (.iconst 3, 1) := by decide +kernel
theorem dX7_drop_3 : decode cX7_drop 3 = .ok (.invokestatic 54, 3) := by decide +kernel
theorem dX7_drop_6 : decode cX7_drop 6 = .ok (.ifCond .ne 5, 3) := by decide +kernel
theorem dX7_drop_9 : decode cX7_drop 9 = .ok (.iconst (-1), 1) := by decide +kernel
theorem dX7_drop_10 : decode cX7_drop 10 = .ok (.ireturn, 1) := by decide +kernel
theorem dX7_drop_11 : decode cX7_drop 11 = .ok (.aload_n 0, 1) := by decide +kernel
theorem dX7_drop_12 : decode cX7_drop 12 = .ok (.getfield 32, 3) := by decide +kernel
theorem dX7_drop_15 : decode cX7_drop 15 = .ok (.iload_n 1, 1) := by decide +kernel
theorem dX7_drop_16 : decode cX7_drop 16 = .ok (.aaload, 1) := by decide +kernel
theorem dX7_drop_17 : decode cX7_drop 17 = .ok (.getfield 272, 3) := by decide +kernel
theorem dX7_drop_20 : decode cX7_drop 20 = .ok (.ifCond .ne 6, 3) := by decide +kernel
theorem dX7_drop_23 : decode cX7_drop 23 = .ok (.bipush (-11), 2) := by decide +kernel
theorem dX7_drop_25 : decode cX7_drop 25 = .ok (.ireturn, 1) := by decide +kernel
theorem dX7_drop_26 : decode cX7_drop 26 = .ok (.aload_n 0, 1) := by decide +kernel
theorem dX7_drop_27 : decode cX7_drop 27 = .ok (.getfield 32, 3) := by decide +kernel
theorem dX7_drop_30 : decode cX7_drop 30 = .ok (.iload_n 1, 1) := by decide +kernel
theorem dX7_drop_31 : decode cX7_drop 31 = .ok (.aaload, 1) := by decide +kernel
theorem dX7_drop_32 : decode cX7_drop 32 = .ok (.iconst 0, 1) := by decide +kernel
theorem dX7_drop_33 : decode cX7_drop 33 = .ok (.putfield 272, 3) := by decide +kernel
theorem dX7_drop_36 : decode cX7_drop 36 = .ok (.aload_n 0, 1) := by decide +kernel
theorem dX7_drop_37 : decode cX7_drop 37 = .ok (.getfield 32, 3) := by decide +kernel
theorem dX7_drop_40 : decode cX7_drop 40 = .ok (.iload_n 1, 1) := by decide +kernel
theorem dX7_drop_41 : decode cX7_drop 41 = .ok (.aaload, 1) := by decide +kernel
theorem dX7_drop_42 : decode cX7_drop 42 = .ok (.getfield 275, 3) := by decide +kernel
theorem dX7_drop_45 : decode cX7_drop 45 = .ok (.ireturn, 1) := by decide +kernel
theorem dX7_item_0 : decode cX7_item 0 = .ok (.aload_n 0, 1) := by decide +kernel
theorem dX7_item_1 : decode cX7_item 1 = .ok (.iload_n 1, 1) := by decide +kernel
theorem dX7_item_2 : decode cX7_item 2 = .ok (.iload_n 2, 1) := by decide +kernel
theorem dX7_item_3 : decode cX7_item 3 = .ok (.iload_n 3, 1) := by decide +kernel
theorem dX7_item_4 : decode cX7_item 4 = .ok (.iconst 1, 1) := by decide +kernel
theorem dX7_item_5 : decode cX7_item 5 = .ok (.invokevirtual 255, 3) := by decide +kernel
theorem dX7_item_8 : decode cX7_item 8 = .ok (.istore 6, 2) := by decide +kernel
theorem dX7_item_10 : decode cX7_item 10 = .ok (.iload 6, 2) := by decide +kernel
theorem dX7_item_12 : decode cX7_item 12 = .ok (.ifCond .eq 6, 3) := by decide +kernel
theorem dX7_item_15 : decode cX7_item 15 = .ok (.iload 6, 2) := by decide +kernel
theorem dX7_item_17 : decode cX7_item 17 = .ok (.ireturn, 1) := by decide +kernel
theorem dX7_item_18 : decode cX7_item 18 = .ok (.aload_n 0, 1) := by decide +kernel
theorem dX7_item_19 : decode cX7_item 19 = .ok (.getfield 32, 3) := by decide +kernel
theorem dX7_item_22 : decode cX7_item 22 = .ok (.iload_n 1, 1) := by decide +kernel
theorem dX7_item_23 : decode cX7_item 23 = .ok (.aaload, 1) := by decide +kernel
theorem dX7_item_24 : decode cX7_item 24 = .ok (.iload_n 3, 1) := by decide +kernel
theorem dX7_item_25 : decode cX7_item 25 = .ok (.lload 4, 2) := by decide +kernel
theorem dX7_item_27 : decode cX7_item 27 = .ok (.invokevirtual 276, 3) := by decide +kernel
theorem dX7_item_30 : decode cX7_item 30 = .ok (.iconst 1, 1) := by decide +kernel
theorem dX7_item_31 : decode cX7_item 31 = .ok (.ireturn, 1) := by decide +kernel
theorem dX7_copy_0 : decode cX7_copy 0 = .ok (.iload_n 1, 1) := by decide +kernel
theorem dX7_copy_1 : decode cX7_copy 1 = .ok (.iconst 0, 1) := by decide +kernel
theorem dX7_copy_2 : decode cX7_copy 2 = .ok (.iconst 3, 1) := by decide +kernel
theorem dX7_copy_3 : decode cX7_copy 3 = .ok (.invokestatic 54, 3) := by decide +kernel
theorem dX7_copy_6 : decode cX7_copy 6 = .ok (.ifCond .eq 12, 3) := by decide +kernel
theorem dX7_copy_9 : decode cX7_copy 9 = .ok (.iload_n 3, 1) := by decide +kernel
theorem dX7_copy_10 : decode cX7_copy 10 = .ok (.iconst 0, 1) := by decide +kernel
theorem dX7_copy_11 : decode cX7_copy 11 = .ok (.iconst 3, 1) := by decide +kernel
theorem dX7_copy_12 : decode cX7_copy 12 = .ok (.invokestatic 54, 3) := by decide +kernel
theorem dX7_copy_15 : decode cX7_copy 15 = .ok (.ifCond .ne 5, 3) := by decide +kernel
theorem dX7_copy_18 : decode cX7_copy 18 = .ok (.iconst (-1), 1) := by decide +kernel
theorem dX7_copy_19 : decode cX7_copy 19 = .ok (.ireturn, 1) := by decide +kernel
theorem dX7_copy_20 : decode cX7_copy 20 = .ok (.aload_n 0, 1) := by decide +kernel
theorem dX7_copy_21 : decode cX7_copy 21 = .ok (.getfield 32, 3) := by decide +kernel
theorem dX7_copy_24 : decode cX7_copy 24 = .ok (.iload_n 1, 1) := by decide +kernel
theorem dX7_copy_25 : decode cX7_copy 25 = .ok (.aaload, 1) := by decide +kernel
theorem dX7_copy_26 : decode cX7_copy 26 = .ok (.astore 6, 2) := by decide +kernel
theorem dX7_copy_28 : decode cX7_copy 28 = .ok (.aload_n 0, 1) := by decide +kernel
theorem dX7_copy_29 : decode cX7_copy 29 = .ok (.getfield 32, 3) := by decide +kernel
theorem dX7_copy_32 : decode cX7_copy 32 = .ok (.iload_n 3, 1) := by decide +kernel
theorem dX7_copy_33 : decode cX7_copy 33 = .ok (.aaload, 1) := by decide +kernel
theorem dX7_copy_34 : decode cX7_copy 34 = .ok (.astore 7, 2) := by decide +kernel
theorem dX7_copy_36 : decode cX7_copy 36 = .ok (.aload 6, 2) := by decide +kernel
theorem dX7_copy_38 : decode cX7_copy 38 = .ok (.getfield 272, 3) := by decide +kernel
theorem dX7_copy_41 : decode cX7_copy 41 = .ok (.ifCond .eq 11, 3) := by decide +kernel
theorem dX7_copy_44 : decode cX7_copy 44 = .ok (.aload 7, 2) := by decide +kernel
theorem dX7_copy_46 : decode cX7_copy 46 = .ok (.getfield 272, 3) := by decide +kernel
theorem dX7_copy_49 : decode cX7_copy 49 = .ok (.ifCond .ne 6, 3) := by decide +kernel
theorem dX7_copy_52 : decode cX7_copy 52 = .ok (.bipush (-11), 2) := by decide +kernel
theorem dX7_copy_54 : decode cX7_copy 54 = .ok (.ireturn, 1) := by decide +kernel
theorem dX7_copy_55 : decode cX7_copy 55 = .ok (.aload 6, 2) := by decide +kernel
theorem dX7_copy_57 : decode cX7_copy 57 = .ok (.getfield 280, 3) := by decide +kernel
theorem dX7_copy_60 : decode cX7_copy 60 = .ok (.aload 7, 2) := by decide +kernel
theorem dX7_copy_62 : decode cX7_copy 62 = .ok (.getfield 280, 3) := by decide +kernel
theorem dX7_copy_65 : decode cX7_copy 65 = .ok (.if_icmp .eq 6, 3) := by decide +kernel
theorem dX7_copy_68 : decode cX7_copy 68 = .ok (.bipush (-12), 2) := by decide +kernel
theorem dX7_copy_70 : decode cX7_copy 70 = .ok (.ireturn, 1) := by decide +kernel
theorem dX7_copy_71 : decode cX7_copy 71 = .ok (.aload 6, 2) := by decide +kernel
theorem dX7_copy_73 : decode cX7_copy 73 = .ok (.iload_n 2, 1) := by decide +kernel
theorem dX7_copy_74 : decode cX7_copy 74 = .ok (.iload 5, 2) := by decide +kernel
theorem dX7_copy_76 : decode cX7_copy 76 = .ok (.invokevirtual 283, 3) := by decide +kernel
theorem dX7_copy_79 : decode cX7_copy 79 = .ok (.ifCond .eq 15, 3) := by decide +kernel
theorem dX7_copy_82 : decode cX7_copy 82 = .ok (.aload 7, 2) := by decide +kernel
theorem dX7_copy_84 : decode cX7_copy 84 = .ok (.iload 4, 2) := by decide +kernel
theorem dX7_copy_86 : decode cX7_copy 86 = .ok (.iload 5, 2) := by decide +kernel
theorem dX7_copy_88 : decode cX7_copy 88 = .ok (.invokevirtual 283, 3) := by decide +kernel
theorem dX7_copy_91 : decode cX7_copy 91 = .ok (.ifCond .ne 6, 3) := by decide +kernel
theorem dX7_copy_94 : decode cX7_copy 94 = .ok (.bipush (-13), 2) := by decide +kernel
theorem dX7_copy_96 : decode cX7_copy 96 = .ok (.ireturn, 1) := by decide +kernel
theorem dX7_copy_97 : decode cX7_copy 97 = .ok (.aload 6, 2) := by decide +kernel
theorem dX7_copy_99 : decode cX7_copy 99 = .ok (.getfield 258, 3) := by decide +kernel
theorem dX7_copy_102 : decode cX7_copy 102 = .ok (.iload_n 2, 1) := by decide +kernel
theorem dX7_copy_103 : decode cX7_copy 103 = .ok (.aload 7, 2) := by decide +kernel
theorem dX7_copy_105 : decode cX7_copy 105 = .ok (.getfield 258, 3) := by decide +kernel
theorem dX7_copy_108 : decode cX7_copy 108 = .ok (.iload 4, 2) := by decide +kernel
theorem dX7_copy_110 : decode cX7_copy 110 = .ok (.iload 5, 2) := by decide +kernel
theorem dX7_copy_112 : decode cX7_copy 112 = .ok (.invokestatic 286, 3) := by decide +kernel
theorem dX7_copy_115 : decode cX7_copy 115 = .ok (.iload 5, 2) := by decide +kernel
theorem dX7_copy_117 : decode cX7_copy 117 = .ok (.ireturn, 1) := by decide +kernel
theorem dX7_within_0 : decode cX7_within 0 = .ok (.iload_n 0, 1) := by decide +kernel
theorem dX7_within_1 : decode cX7_within 1 = .ok (.iload_n 1, 1) := by decide +kernel
theorem dX7_within_2 : decode cX7_within 2 = .ok (.if_icmp .lt 12, 3) := by decide +kernel
theorem dX7_within_5 : decode cX7_within 5 = .ok (.iload_n 0, 1) := by decide +kernel
theorem dX7_within_6 : decode cX7_within 6 = .ok (.iload_n 2, 1) := by decide +kernel
theorem dX7_within_7 : decode cX7_within 7 = .ok (.if_icmp .gt 7, 3) := by decide +kernel
theorem dX7_within_10 : decode cX7_within 10 = .ok (.iconst 1, 1) := by decide +kernel
theorem dX7_within_11 : decode cX7_within 11 = .ok (.goto 4, 3) := by decide +kernel
theorem dX7_within_14 : decode cX7_within 14 = .ok (.iconst 0, 1) := by decide +kernel
theorem dX7_within_15 : decode cX7_within 15 = .ok (.ireturn, 1) := by decide +kernel
theorem dX7_asNumber_0 : decode cX7_asNumber 0 = .ok (.iload_n 0, 1) := by decide +kernel
theorem dX7_asNumber_1 : decode cX7_asNumber 1 = .ok (.ifCond .eq 7, 3) := by decide +kernel
theorem dX7_asNumber_4 : decode cX7_asNumber 4 = .ok (.iconst 1, 1) := by decide +kernel
theorem dX7_asNumber_5 : decode cX7_asNumber 5 = .ok (.goto 4, 3) := by decide +kernel
theorem dX7_asNumber_8 : decode cX7_asNumber 8 = .ok (.iconst 0, 1) := by decide +kernel
theorem dX7_asNumber_9 : decode cX7_asNumber 9 = .ok (.ireturn, 1) := by decide +kernel
theorem dX7_isRock_0 : decode cX7_isRock 0 = .ok (.iload_n 1, 1) := by decide +kernel
theorem dX7_isRock_1 : decode cX7_isRock 1 = .ok (.iconst 0, 1) := by decide +kernel
theorem dX7_isRock_2 : decode cX7_isRock 2 = .ok (.aload_n 0, 1) := by decide +kernel
theorem dX7_isRock_3 : decode cX7_isRock 3 = .ok (.getfield 10, 3) := by decide +kernel
theorem dX7_isRock_6 : decode cX7_isRock 6 = .ok (.getfield 38, 3) := by decide +kernel
theorem dX7_isRock_9 : decode cX7_isRock 9 = .ok (.getfield 58, 3) := by decide +kernel
theorem dX7_isRock_12 : decode cX7_isRock 12 = .ok (.iconst 1, 1) := by decide +kernel
theorem dX7_isRock_13 : decode cX7_isRock 13 = .ok (.isub, 1) := by decide +kernel
theorem dX7_isRock_14 : decode cX7_isRock 14 = .ok (.invokestatic 54, 3) := by decide +kernel
theorem dX7_isRock_17 : decode cX7_isRock 17 = .ok (.ireturn, 1) := by decide +kernel
theorem dX7_isPair_0 : decode cX7_isPair 0 = .ok (.aload_n 0, 1) := by decide +kernel
theorem dX7_isPair_1 : decode cX7_isPair 1 = .ok (.iload_n 1, 1) := by decide +kernel
theorem dX7_isPair_2 : decode cX7_isPair 2 = .ok (.invokevirtual 72, 3) := by decide +kernel
theorem dX7_isPair_5 : decode cX7_isPair 5 = .ok (.ifCond .eq 20, 3) := by decide +kernel
theorem dX7_isPair_8 : decode cX7_isPair 8 = .ok (.aload_n 0, 1) := by decide +kernel
theorem dX7_isPair_9 : decode cX7_isPair 9 = .ok (.iload_n 2, 1) := by decide +kernel
theorem dX7_isPair_10 : decode cX7_isPair 10 = .ok (.invokevirtual 72, 3) := by decide +kernel
theorem dX7_isPair_13 : decode cX7_isPair 13 = .ok (.ifCond .eq 12, 3) := by decide +kernel
theorem dX7_isPair_16 : decode cX7_isPair 16 = .ok (.iload_n 1, 1) := by decide +kernel
theorem dX7_isPair_17 : decode cX7_isPair 17 = .ok (.iload_n 2, 1) := by decide +kernel
theorem dX7_isPair_18 : decode cX7_isPair 18 = .ok (.if_icmp .eq 7, 3) := by decide +kernel
theorem dX7_isPair_21 : decode cX7_isPair 21 = .ok (.iconst 1, 1) := by decide +kernel
theorem dX7_isPair_22 : decode cX7_isPair 22 = .ok (.goto 4, 3) := by decide +kernel
theorem dX7_isPair_25 : decode cX7_isPair 25 = .ok (.iconst 0, 1) := by decide +kernel
theorem dX7_isPair_26 : decode cX7_isPair 26 = .ok (.ireturn, 1) := by decide +kernel
theorem dX7_isSet_0 : decode cX7_isSet 0 = .ok (.iload_n 1, 1) := by decide +kernel
theorem dX7_isSet_1 : decode cX7_isSet 1 = .ok (.iconst 0, 1) := by decide +kernel
theorem dX7_isSet_2 : decode cX7_isSet 2 = .ok (.iconst 1, 1) := by decide +kernel
theorem dX7_isSet_3 : decode cX7_isSet 3 = .ok (.aload_n 0, 1) := by decide +kernel
theorem dX7_isSet_4 : decode cX7_isSet 4 = .ok (.getfield 10, 3) := by decide +kernel
theorem dX7_isSet_7 : decode cX7_isSet 7 = .ok (.getfield 38, 3) := by decide +kernel
theorem dX7_isSet_10 : decode cX7_isSet 10 = .ok (.getfield 58, 3) := by decide +kernel
theorem dX7_isSet_13 : decode cX7_isSet 13 = .ok (.ishl, 1) := by decide +kernel
theorem dX7_isSet_14 : decode cX7_isSet 14 = .ok (.iconst 1, 1) := by decide +kernel
theorem dX7_isSet_15 : decode cX7_isSet 15 = .ok (.isub, 1) := by decide +kernel
theorem dX7_isSet_16 : decode cX7_isSet 16 = .ok (.invokestatic 54, 3) := by decide +kernel
theorem dX7_isSet_19 : decode cX7_isSet 19 = .ok (.ireturn, 1) := by decide +kernel
theorem dX7_passMinutes_0 : decode cX7_passMinutes 0 = .ok (.iload_n 1, 1) := by decide +kernel
theorem dX7_passMinutes_1 : decode cX7_passMinutes 1 = .ok (.iconst 1, 1) := by decide +kernel
theorem dX7_passMinutes_2 : decode cX7_passMinutes 2 = .ok (.bipush 60, 2) := by decide +kernel
theorem dX7_passMinutes_4 : decode cX7_passMinutes 4 = .ok (.invokestatic 54, 3) := by decide +kernel
theorem dX7_passMinutes_7 : decode cX7_passMinutes 7 = .ok (.ifCond .ne 5, 3) := by decide +kernel
theorem dX7_passMinutes_10 : decode cX7_passMinutes 10 = .ok (.iconst (-1), 1) := by decide +kernel
theorem dX7_passMinutes_11 : decode cX7_passMinutes 11 = .ok (.ireturn, 1) := by decide +kernel
theorem dX7_passMinutes_12 : decode cX7_passMinutes 12 = .ok (.aload_n 0, 1) := by decide +kernel
theorem dX7_passMinutes_13 : decode cX7_passMinutes 13 = .ok (.getfield 10, 3) := by decide +kernel
theorem dX7_passMinutes_16 : decode cX7_passMinutes 16 = .ok (.getfield 38, 3) := by decide +kernel
theorem dX7_passMinutes_19 : decode cX7_passMinutes 19 = .ok (.getfield 165, 3) := by decide +kernel
theorem dX7_passMinutes_22 : decode cX7_passMinutes 22 = .ok (.iload_n 1, 1) := by decide +kernel
theorem dX7_passMinutes_23 : decode cX7_passMinutes 23 = .ok (.iadd, 1) := by decide +kernel
theorem dX7_passMinutes_24 : decode cX7_passMinutes 24 = .ok (.sipush 999, 3) := by decide +kernel
theorem dX7_passMinutes_27 : decode cX7_passMinutes 27 = .ok (.if_icmp .le 6, 3) := by decide +kernel
theorem dX7_passMinutes_30 : decode cX7_passMinutes 30 = .ok (.bipush (-3), 2) := by decide +kernel
theorem dX7_passMinutes_32 : decode cX7_passMinutes 32 = .ok (.ireturn, 1) := by decide +kernel
theorem dX7_passMinutes_33 : decode cX7_passMinutes 33 = .ok (.iconst 0, 1) := by decide +kernel
theorem dX7_passMinutes_34 : decode cX7_passMinutes 34 = .ok (.istore_n 3, 1) := by decide +kernel
theorem dX7_passMinutes_35 : decode cX7_passMinutes 35 = .ok (.iconst 0, 1) := by decide +kernel
theorem dX7_passMinutes_36 : decode cX7_passMinutes 36 = .ok (.istore 4, 2) := by decide +kernel
theorem dX7_passMinutes_38 : decode cX7_passMinutes 38 = .ok (.iload 4, 2) := by decide +kernel
theorem dX7_passMinutes_40 : decode cX7_passMinutes 40 = .ok (.iload_n 1, 1) := by decide +kernel
theorem dX7_passMinutes_41 : decode cX7_passMinutes 41 = .ok (.if_icmp .ge 30, 3) := by decide +kernel
theorem dX7_passMinutes_44 : decode cX7_passMinutes 44 = .ok (.iload_n 3, 1) := by decide +kernel
theorem dX7_passMinutes_45 : decode cX7_passMinutes 45 = .ok (.aload_n 0, 1) := by decide +kernel
theorem dX7_passMinutes_46 : decode cX7_passMinutes 46 = .ok (.getfield 10, 3) := by decide +kernel
theorem dX7_passMinutes_49 : decode cX7_passMinutes 49 = .ok (.getfield 38, 3) := by decide +kernel
theorem dX7_passMinutes_52 : decode cX7_passMinutes 52 = .ok (.aload_n 0, 1) := by decide +kernel
theorem dX7_passMinutes_53 : decode cX7_passMinutes 53 = .ok (.getfield 10, 3) := by decide +kernel
theorem dX7_passMinutes_56 : decode cX7_passMinutes 56 = .ok (.getfield 42, 3) := by decide +kernel
theorem dX7_passMinutes_59 : decode cX7_passMinutes 59 = .ok (.iload_n 2, 1) := by decide +kernel
theorem dX7_passMinutes_60 : decode cX7_passMinutes 60 = .ok (.invokevirtual 188, 3) := by decide +kernel
theorem dX7_passMinutes_63 : decode cX7_passMinutes 63 = .ok (.iadd, 1) := by decide +kernel
theorem dX7_passMinutes_64 : decode cX7_passMinutes 64 = .ok (.istore_n 3, 1) := by decide +kernel
theorem dX7_passMinutes_65 : decode cX7_passMinutes 65 = .ok (.iinc 4 1, 3) := by decide +kernel
theorem dX7_passMinutes_68 : decode cX7_passMinutes 68 = .ok (.goto (-30), 3) := by decide +kernel
theorem dX7_passMinutes_71 : decode cX7_passMinutes 71 = .ok (.iload_n 3, 1) := by decide +kernel
theorem dX7_passMinutes_72 : decode cX7_passMinutes 72 = .ok (.ireturn, 1) := by decide +kernel
theorem dX7_refusalOfRow_0 : decode cX7_refusalOfRow 0 = .ok (.iload_n 1, 1) := by decide +kernel
theorem dX7_refusalOfRow_1 : decode cX7_refusalOfRow 1 = .ok (.iconst 0, 1) := by decide +kernel
theorem dX7_refusalOfRow_2 : decode cX7_refusalOfRow 2 = .ok (.iconst 3, 1) := by decide +kernel
theorem dX7_refusalOfRow_3 : decode cX7_refusalOfRow 3 = .ok (.invokestatic 54, 3) := by decide +kernel
theorem dX7_refusalOfRow_6 : decode cX7_refusalOfRow 6 = .ok (.ifCond .eq 12, 3) := by decide +kernel
theorem dX7_refusalOfRow_9 : decode cX7_refusalOfRow 9 = .ok (.iload_n 2, 1) := by decide +kernel
theorem dX7_refusalOfRow_10 : decode cX7_refusalOfRow 10 = .ok (.iconst 0, 1) := by decide +kernel
theorem dX7_refusalOfRow_11 : decode cX7_refusalOfRow 11 = .ok (.iconst 3, 1) := by decide +kernel
theorem dX7_refusalOfRow_12 : decode cX7_refusalOfRow 12 = .ok (.invokestatic 54, 3) := by decide +kernel
theorem dX7_refusalOfRow_15 : decode cX7_refusalOfRow 15 = .ok (.ifCond .ne 5, 3) := by decide +kernel
theorem dX7_refusalOfRow_18 : decode cX7_refusalOfRow 18 = .ok (.iconst (-1), 1) := by decide +kernel
theorem dX7_refusalOfRow_19 : decode cX7_refusalOfRow 19 = .ok (.ireturn, 1) := by decide +kernel
theorem dX7_refusalOfRow_20 : decode cX7_refusalOfRow 20 = .ok (.aload_n 0, 1) := by decide +kernel
theorem dX7_refusalOfRow_21 : decode cX7_refusalOfRow 21 = .ok (.getfield 32, 3) := by decide +kernel
theorem dX7_refusalOfRow_24 : decode cX7_refusalOfRow 24 = .ok (.iload_n 1, 1) := by decide +kernel
theorem dX7_refusalOfRow_25 : decode cX7_refusalOfRow 25 = .ok (.aaload, 1) := by decide +kernel
theorem dX7_refusalOfRow_26 : decode cX7_refusalOfRow 26 = .ok (.getfield 272, 3) := by decide +kernel
theorem dX7_refusalOfRow_29 : decode cX7_refusalOfRow 29 = .ok (.ifCond .ne 6, 3) := by decide +kernel
theorem dX7_refusalOfRow_32 : decode cX7_refusalOfRow 32 = .ok (.bipush (-11), 2) := by decide +kernel
theorem dX7_refusalOfRow_34 : decode cX7_refusalOfRow 34 = .ok (.ireturn, 1) := by decide +kernel
theorem dX7_refusalOfRow_35 : decode cX7_refusalOfRow 35 = .ok (.aload_n 0, 1) := by decide +kernel
theorem dX7_refusalOfRow_36 : decode cX7_refusalOfRow 36 = .ok (.getfield 32, 3) := by decide +kernel
theorem dX7_refusalOfRow_39 : decode cX7_refusalOfRow 39 = .ok (.iload_n 1, 1) := by decide +kernel
theorem dX7_refusalOfRow_40 : decode cX7_refusalOfRow 40 = .ok (.aaload, 1) := by decide +kernel
theorem dX7_refusalOfRow_41 : decode cX7_refusalOfRow 41 = .ok (.getfield 280, 3) := by decide +kernel
theorem dX7_refusalOfRow_44 : decode cX7_refusalOfRow 44 = .ok (.iload_n 2, 1) := by decide +kernel
theorem dX7_refusalOfRow_45 : decode cX7_refusalOfRow 45 = .ok (.if_icmp .eq 6, 3) := by decide +kernel
theorem dX7_refusalOfRow_48 : decode cX7_refusalOfRow 48 = .ok (.bipush (-12), 2) := by decide +kernel
theorem dX7_refusalOfRow_50 : decode cX7_refusalOfRow 50 = .ok (.ireturn, 1) := by decide +kernel
theorem dX7_refusalOfRow_51 : decode cX7_refusalOfRow 51 = .ok (.aload_n 0, 1) := by decide +kernel
theorem dX7_refusalOfRow_52 : decode cX7_refusalOfRow 52 = .ok (.getfield 32, 3) := by decide +kernel
theorem dX7_refusalOfRow_55 : decode cX7_refusalOfRow 55 = .ok (.iload_n 1, 1) := by decide +kernel
theorem dX7_refusalOfRow_56 : decode cX7_refusalOfRow 56 = .ok (.aaload, 1) := by decide +kernel
theorem dX7_refusalOfRow_57 : decode cX7_refusalOfRow 57 = .ok (.iload_n 3, 1) := by decide +kernel
theorem dX7_refusalOfRow_58 : decode cX7_refusalOfRow 58 = .ok (.iload 4, 2) := by decide +kernel
theorem dX7_refusalOfRow_60 : decode cX7_refusalOfRow 60 = .ok (.invokevirtual 283, 3) := by decide +kernel
theorem dX7_refusalOfRow_63 : decode cX7_refusalOfRow 63 = .ok (.ifCond .eq 7, 3) := by decide +kernel
theorem dX7_refusalOfRow_66 : decode cX7_refusalOfRow 66 = .ok (.iconst 0, 1) := by decide +kernel
theorem dX7_refusalOfRow_67 : decode cX7_refusalOfRow 67 = .ok (.goto 5, 3) := by decide +kernel
theorem dX7_refusalOfRow_70 : decode cX7_refusalOfRow 70 = .ok (.bipush (-13), 2) := by decide +kernel
theorem dX7_refusalOfRow_72 : decode cX7_refusalOfRow 72 = .ok (.ireturn, 1) := by decide +kernel
theorem dX7_choose_0 : decode cX7_choose 0 = .ok (.iload_n 1, 1) := by decide +kernel
theorem dX7_choose_1 : decode cX7_choose 1 = .ok (.ifCond .lt 8, 3) := by decide +kernel
theorem dX7_choose_4 : decode cX7_choose 4 = .ok (.iload_n 1, 1) := by decide +kernel
theorem dX7_choose_5 : decode cX7_choose 5 = .ok (.iload_n 0, 1) := by decide +kernel
theorem dX7_choose_6 : decode cX7_choose 6 = .ok (.if_icmp .le 5, 3) := by decide +kernel
theorem dX7_choose_9 : decode cX7_choose 9 = .ok (.iconst 0, 1) := by decide +kernel
theorem dX7_choose_10 : decode cX7_choose 10 = .ok (.ireturn, 1) := by decide +kernel
theorem dX7_choose_11 : decode cX7_choose 11 = .ok (.iconst 1, 1) := by decide +kernel
theorem dX7_choose_12 : decode cX7_choose 12 = .ok (.istore_n 2, 1) := by decide +kernel
theorem dX7_choose_13 : decode cX7_choose 13 = .ok (.iconst 1, 1) := by decide +kernel
theorem dX7_choose_14 : decode cX7_choose 14 = .ok (.istore_n 3, 1) := by decide +kernel
theorem dX7_choose_15 : decode cX7_choose 15 = .ok (.iload_n 3, 1) := by decide +kernel
theorem dX7_choose_16 : decode cX7_choose 16 = .ok (.iload_n 1, 1) := by decide +kernel
theorem dX7_choose_17 : decode cX7_choose 17 = .ok (.if_icmp .gt 19, 3) := by decide +kernel
theorem dX7_choose_20 : decode cX7_choose 20 = .ok (.iload_n 2, 1) := by decide +kernel
theorem dX7_choose_21 : decode cX7_choose 21 = .ok (.iload_n 0, 1) := by decide +kernel
theorem dX7_choose_22 : decode cX7_choose 22 = .ok (.iload_n 1, 1) := by decide +kernel
theorem dX7_choose_23 : decode cX7_choose 23 = .ok (.isub, 1) := by decide +kernel
theorem dX7_choose_24 : decode cX7_choose 24 = .ok (.iload_n 3, 1) := by decide +kernel
theorem dX7_choose_25 : decode cX7_choose 25 = .ok (.iadd, 1) := by decide +kernel
theorem dX7_choose_26 : decode cX7_choose 26 = .ok (.imul, 1) := by decide +kernel
theorem dX7_choose_27 : decode cX7_choose 27 = .ok (.iload_n 3, 1) := by decide +kernel
theorem dX7_choose_28 : decode cX7_choose 28 = .ok (.idiv, 1) := by decide +kernel
theorem dX7_choose_29 : decode cX7_choose 29 = .ok (.istore_n 2, 1) := by decide +kernel
theorem dX7_choose_30 : decode cX7_choose 30 = .ok (.iinc 3 1, 3) := by decide +kernel
theorem dX7_choose_33 : decode cX7_choose 33 = .ok (.goto (-18), 3) := by decide +kernel
theorem dX7_choose_36 : decode cX7_choose 36 = .ok (.iload_n 2, 1) := by decide +kernel
theorem dX7_choose_37 : decode cX7_choose 37 = .ok (.ireturn, 1) := by decide +kernel
theorem dX8_init_0 : decode cX8_init 0 = .ok (.aload_n 0, 1) := by decide +kernel
theorem dX8_init_1 : decode cX8_init 1 = .ok (.invokespecial 1, 3) := by decide +kernel
theorem dX8_init_4 : decode cX8_init 4 = .ok (.aload_n 0, 1) := by decide +kernel
theorem dX8_init_5 : decode cX8_init 5 = .ok (.sipush 1829, 3) := by decide +kernel
theorem dX8_init_8 : decode cX8_init 8 = .ok (.newarray .int, 2) := by decide +kernel
theorem dX8_init_10 : decode cX8_init 10 = .ok (.putfield 7, 3) := by decide +kernel
theorem dX8_init_13 : decode cX8_init 13 = .ok (.aload_n 0, 1) := by decide +kernel
theorem dX8_init_14 : decode cX8_init 14 = .ok (.sipush 1829, 3) := by decide +kernel
theorem dX8_init_17 : decode cX8_init 17 = .ok (.newarray .int, 2) := by decide +kernel
theorem dX8_init_19 : decode cX8_init 19 = .ok (.putfield 13, 3) := by decide +kernel
theorem dX8_init_22 : decode cX8_init 22 = .ok (.aload_n 0, 1) := by decide +kernel
theorem dX8_init_23 : decode cX8_init 23 = .ok (.sipush 1829, 3) := by decide +kernel
theorem dX8_init_26 : decode cX8_init 26 = .ok (.newarray .int, 2) := by decide +kernel
theorem dX8_init_28 : decode cX8_init 28 = .ok (.putfield 16, 3) := by decide +kernel
theorem dX8_init_31 : decode cX8_init 31 = .ok (.aload_n 0, 1) := by decide +kernel
theorem dX8_init_32 : decode cX8_init 32 = .ok (.sipush 1829, 3) := by decide +kernel
theorem dX8_init_35 : decode cX8_init 35 = .ok (.newarray .int, 2) := by decide +kernel
theorem dX8_init_37 : decode cX8_init 37 = .ok (.putfield 19, 3) := by decide +kernel
theorem dX8_init_40 : decode cX8_init 40 = .ok (.aload_n 0, 1) := by decide +kernel
theorem dX8_init_41 : decode cX8_init 41 = .ok (.sipush 160, 3) := by decide +kernel
theorem dX8_init_44 : decode cX8_init 44 = .ok (.newarray .int, 2) := by decide +kernel
theorem dX8_init_46 : decode cX8_init 46 = .ok (.putfield 22, 3) := by decide +kernel
theorem dX8_init_49 : decode cX8_init 49 = .ok (.aload_n 0, 1) := by decide +kernel
theorem dX8_init_50 : decode cX8_init 50 = .ok (.bipush 36, 2) := by decide +kernel
theorem dX8_init_52 : decode cX8_init 52 = .ok (.newarray .int, 2) := by decide +kernel
theorem dX8_init_54 : decode cX8_init 54 = .ok (.putfield 25, 3) := by decide +kernel
theorem dX8_init_57 : decode cX8_init 57 = .ok (.aload_n 0, 1) := by decide +kernel
theorem dX8_init_58 : decode cX8_init 58 = .ok (.iconst 4, 1) := by decide +kernel
theorem dX8_init_59 : decode cX8_init 59 = .ok (.newarray .int, 2) := by decide +kernel
theorem dX8_init_61 : decode cX8_init 61 = .ok (.putfield 28, 3) := by decide +kernel
theorem dX8_init_64 : decode cX8_init 64 = .ok (.aload_n 0, 1) := by decide +kernel
theorem dX8_init_65 : decode cX8_init 65 = .ok (.iconst 4, 1) := by decide +kernel
theorem dX8_init_66 : decode cX8_init 66 = .ok (.newarray .int, 2) := by decide +kernel
theorem dX8_init_68 : decode cX8_init 68 = .ok (.putfield 31, 3) := by decide +kernel
theorem dX8_init_71 : decode cX8_init 71 = .ok (.aload_n 0, 1) := by decide +kernel
theorem dX8_init_72 : decode cX8_init 72 = .ok (.bipush 96, 2) := by decide +kernel
theorem dX8_init_74 : decode cX8_init 74 = .ok (.newarray .long, 2) := by decide +kernel
theorem dX8_init_76 : decode cX8_init 76 = .ok (.putfield 34, 3) := by decide +kernel
theorem dX8_init_79 : decode cX8_init 79 = .ok (.aload_n 0, 1) := by decide +kernel
theorem dX8_init_80 : decode cX8_init 80 = .ok (.iconst (-1), 1) := by decide +kernel
theorem dX8_init_81 : decode cX8_init 81 = .ok (.putfield 38, 3) := by decide +kernel
theorem dX8_init_84 : decode cX8_init 84 = .ok (.aload_n 0, 1) := by decide +kernel
theorem dX8_init_85 : decode cX8_init 85 = .ok (.bipush 9, 2) := by decide +kernel
theorem dX8_init_87 : decode cX8_init 87 = .ok (.newarray .int, 2) := by decide +kernel
theorem dX8_init_89 : decode cX8_init 89 = .ok (.putfield 42, 3) := by decide +kernel
theorem dX8_init_92 : decode cX8_init 92 = .ok (.aload_n 0, 1) := by decide +kernel
theorem dX8_init_93 : decode cX8_init 93 = .ok (.bipush 24, 2) := by decide +kernel
theorem dX8_init_95 : decode cX8_init 95 = .ok (.newarray .long, 2) := by decide +kernel
theorem dX8_init_97 : decode cX8_init 97 = .ok (.putfield 45, 3) := by decide +kernel
theorem dX8_init_100 : decode cX8_init 100 = .ok (.aload_n 0, 1) := by decide +kernel
theorem dX8_init_101 : decode cX8_init 101 = .ok (.getfield 7, 3) := by decide +kernel
theorem dX8_init_104 : decode cX8_init 104 = .ok (.iconst 5, 1) := by decide +kernel
theorem dX8_init_105 : decode cX8_init 105 = .ok (.iconst 1, 1) := by decide +kernel
theorem dX8_init_106 : decode cX8_init 106 = .ok (.iastore, 1) := by decide +kernel
theorem dX8_init_107 : decode cX8_init 107 = .ok (.iconst 0, 1) := by decide +kernel
theorem dX8_init_108 : decode cX8_init 108 = .ok (.istore_n 1, 1) := by decide +kernel
theorem dX8_init_109 : decode cX8_init 109 = .ok (.iload_n 1, 1) := by decide +kernel
theorem dX8_init_110 : decode cX8_init 110 = .ok (.iconst 4, 1) := by decide +kernel
theorem dX8_init_111 : decode cX8_init 111 = .ok (.if_icmp .ge 16, 3) := by decide +kernel
theorem dX8_init_114 : decode cX8_init 114 = .ok (.aload_n 0, 1) := by decide +kernel
theorem dX8_init_115 : decode cX8_init 115 = .ok (.getfield 28, 3) := by decide +kernel
theorem dX8_init_118 : decode cX8_init 118 = .ok (.iload_n 1, 1) := by decide +kernel
theorem dX8_init_119 : decode cX8_init 119 = .ok (.iconst (-1), 1) := by decide +kernel
theorem dX8_init_120 : decode cX8_init 120 = .ok (.iastore, 1) := by decide +kernel
theorem dX8_init_121 : decode cX8_init 121 = .ok (.iinc 1 1, 3) := by decide +kernel
theorem dX8_init_124 : decode cX8_init 124 = .ok (.goto (-15), 3) := by decide +kernel
theorem dX8_init_127 : decode cX8_init 127 = .ok (.iconst 0, 1) := by decide +kernel
theorem dX8_init_128 : decode cX8_init 128 = .ok (.istore_n 1, 1) := by decide +kernel
theorem dX8_init_129 : decode cX8_init 129 = .ok (.iload_n 1, 1) := by decide +kernel
theorem dX8_init_130 : decode cX8_init 130 = .ok (.bipush 81, 2) := by decide +kernel
theorem dX8_init_132 : decode cX8_init 132 = .ok (.if_icmp .ge 30, 3) := by decide +kernel
theorem dX8_init_135 : decode cX8_init 135 = .ok (.aload_n 0, 1) := by decide +kernel
theorem dX8_init_136 : decode cX8_init 136 = .ok (.getfield 7, 3) := by decide +kernel
theorem dX8_init_139 : decode cX8_init 139 = .ok (.bipush 60, 2) := by decide +kernel
theorem dX8_init_141 : decode cX8_init 141 = .ok (.iload_n 1, 1) := by decide +kernel
theorem dX8_init_142 : decode cX8_init 142 = .ok (.iadd, 1) := by decide +kernel
theorem dX8_init_143 : decode cX8_init 143 = .ok (.iconst 1, 1) := by decide +kernel
theorem dX8_init_144 : decode cX8_init 144 = .ok (.iastore, 1) := by decide +kernel
theorem dX8_init_145 : decode cX8_init 145 = .ok (.aload_n 0, 1) := by decide +kernel
theorem dX8_init_146 : decode cX8_init 146 = .ok (.getfield 7, 3) := by decide +kernel
theorem dX8_init_149 : decode cX8_init 149 = .ok (.sipush 141, 3) := by decide +kernel
theorem dX8_init_152 : decode cX8_init 152 = .ok (.iload_n 1, 1) := by decide +kernel
theorem dX8_init_153 : decode cX8_init 153 = .ok (.iadd, 1) := by decide +kernel
theorem dX8_init_154 : decode cX8_init 154 = .ok (.iconst 2, 1) := by decide +kernel
theorem dX8_init_155 : decode cX8_init 155 = .ok (.iastore, 1) := by decide +kernel
theorem dX8_init_156 : decode cX8_init 156 = .ok (.iinc 1 1, 3) := by decide +kernel
theorem dX8_init_159 : decode cX8_init 159 = .ok (.goto (-30), 3) := by decide +kernel
theorem dX8_init_162 : decode cX8_init 162 = .ok (.return_, 1) := by decide +kernel
theorem dX8_in_0 : decode cX8_in 0 = .ok (.lload_n 0, 1) := by decide +kernel
theorem dX8_in_1 : decode cX8_in 1 = .ok (.lload_n 2, 1) := by decide +kernel
theorem dX8_in_2 : decode cX8_in 2 = .ok (.lcmp, 1) := by decide +kernel
theorem dX8_in_3 : decode cX8_in 3 = .ok (.ifCond .lt 14, 3) := by decide +kernel
theorem dX8_in_6 : decode cX8_in 6 = .ok (.lload_n 0, 1) := by decide +kernel
theorem dX8_in_7 : decode cX8_in 7 = .ok (.lload 4, 2) := by decide +kernel
theorem dX8_in_9 : decode cX8_in 9 = .ok (.lcmp, 1) := by decide +kernel
theorem dX8_in_10 : decode cX8_in 10 = .ok (.ifCond .gt 7, 3) := by decide +kernel
theorem dX8_in_13 : decode cX8_in 13 = .ok (.iconst 1, 1) := by decide +kernel
theorem dX8_in_14 : decode cX8_in 14 = .ok (.goto 4, 3) := by decide +kernel
theorem dX8_in_17 : decode cX8_in 17 = .ok (.iconst 0, 1) := by decide +kernel
theorem dX8_in_18 : decode cX8_in 18 = .ok (.ireturn, 1) := by decide +kernel
theorem dX8_ones_0 : decode cX8_ones 0 = .ok (.iconst 0, 1) := by decide +kernel
theorem dX8_ones_1 : decode cX8_ones 1 = .ok (.istore_n 1, 1) := by decide +kernel
theorem dX8_ones_2 : decode cX8_ones 2 = .ok (.iconst 0, 1) := by decide +kernel
theorem dX8_ones_3 : decode cX8_ones 3 = .ok (.istore_n 2, 1) := by decide +kernel
theorem dX8_ones_4 : decode cX8_ones 4 = .ok (.iload_n 2, 1) := by decide +kernel
theorem dX8_ones_5 : decode cX8_ones 5 = .ok (.bipush 9, 2) := by decide +kernel
theorem dX8_ones_7 : decode cX8_ones 7 = .ok (.if_icmp .ge 17, 3) := by decide +kernel
theorem dX8_ones_10 : decode cX8_ones 10 = .ok (.iload_n 1, 1) := by decide +kernel
theorem dX8_ones_11 : decode cX8_ones 11 = .ok (.iload_n 0, 1) := by decide +kernel
theorem dX8_ones_12 : decode cX8_ones 12 = .ok (.iload_n 2, 1) := by decide +kernel
theorem dX8_ones_13 : decode cX8_ones 13 = .ok (.ishr, 1) := by decide +kernel
theorem dX8_ones_14 : decode cX8_ones 14 = .ok (.iconst 1, 1) := by decide +kernel
theorem dX8_ones_15 : decode cX8_ones 15 = .ok (.iand, 1) := by decide +kernel
theorem dX8_ones_16 : decode cX8_ones 16 = .ok (.iadd, 1) := by decide +kernel
theorem dX8_ones_17 : decode cX8_ones 17 = .ok (.istore_n 1, 1) := by decide +kernel
theorem dX8_ones_18 : decode cX8_ones 18 = .ok (.iinc 2 1, 3) := by decide +kernel
theorem dX8_ones_21 : decode cX8_ones 21 = .ok (.goto (-17), 3) := by decide +kernel
theorem dX8_ones_24 : decode cX8_ones 24 = .ok (.iload_n 1, 1) := by decide +kernel
theorem dX8_ones_25 : decode cX8_ones 25 = .ok (.ireturn, 1) := by decide +kernel
theorem dX8_isRock_0 : decode cX8_isRock 0 = .ok (.iload_n 1, 1) := by decide +kernel
theorem dX8_isRock_1 : decode cX8_isRock 1 = .ok (.i2l, 1) := by decide +kernel
theorem dX8_isRock_2 : decode cX8_isRock 2 = .ok (.lconst 0, 1) := by decide +kernel
theorem dX8_isRock_3 : decode cX8_isRock 3 = .ok (.aload_n 0, 1) := by decide +kernel
theorem dX8_isRock_4 : decode cX8_isRock 4 = .ok (.getfield 7, 3) := by decide +kernel
theorem dX8_isRock_7 : decode cX8_isRock 7 = .ok (.iconst 0, 1) := by decide +kernel
theorem dX8_isRock_8 : decode cX8_isRock 8 = .ok (.iaload, 1) := by decide +kernel
theorem dX8_isRock_9 : decode cX8_isRock 9 = .ok (.iconst 1, 1) := by decide +kernel
theorem dX8_isRock_10 : decode cX8_isRock 10 = .ok (.isub, 1) := by decide +kernel
theorem dX8_isRock_11 : decode cX8_isRock 11 = .ok (.i2l, 1) := by decide +kernel
theorem dX8_isRock_12 : decode cX8_isRock 12 = .ok (.invokestatic 51, 3) := by decide +kernel
theorem dX8_isRock_15 : decode cX8_isRock 15 = .ok (.ireturn, 1) := by decide +kernel
theorem dX8_letsIn_0 : decode cX8_letsIn 0 = .ok (.aload_n 0, 1) := by decide +kernel
theorem dX8_letsIn_1 : decode cX8_letsIn 1 = .ok (.iconst 0, 1) := by decide +kernel
theorem dX8_letsIn_2 : decode cX8_letsIn 2 = .ok (.iaload, 1) := by decide +kernel
theorem dX8_letsIn_3 : decode cX8_letsIn 3 = .ok (.istore 5, 2) := by decide +kernel
theorem dX8_letsIn_5 : decode cX8_letsIn 5 = .ok (.bipush 6, 2) := by decide +kernel
theorem dX8_letsIn_7 : decode cX8_letsIn 7 = .ok (.bipush 6, 2) := by decide +kernel
theorem dX8_letsIn_9 : decode cX8_letsIn 9 = .ok (.iload 5, 2) := by decide +kernel
theorem dX8_letsIn_11 : decode cX8_letsIn 11 = .ok (.imul, 1) := by decide +kernel
theorem dX8_letsIn_12 : decode cX8_letsIn 12 = .ok (.iadd, 1) := by decide +kernel
theorem dX8_letsIn_13 : decode cX8_letsIn 13 = .ok (.istore 6, 2) := by decide +kernel
theorem dX8_letsIn_15 : decode cX8_letsIn 15 = .ok (.aload_n 0, 1) := by decide +kernel
theorem dX8_letsIn_16 : decode cX8_letsIn 16 = .ok (.iload 6, 2) := by decide +kernel
theorem dX8_letsIn_18 : decode cX8_letsIn 18 = .ok (.iload_n 1, 1) := by decide +kernel
theorem dX8_letsIn_19 : decode cX8_letsIn 19 = .ok (.iastore, 1) := by decide +kernel
theorem dX8_letsIn_20 : decode cX8_letsIn 20 = .ok (.aload_n 0, 1) := by decide +kernel
theorem dX8_letsIn_21 : decode cX8_letsIn 21 = .ok (.iload 6, 2) := by decide +kernel
theorem dX8_letsIn_23 : decode cX8_letsIn 23 = .ok (.iconst 1, 1) := by decide +kernel
theorem dX8_letsIn_24 : decode cX8_letsIn 24 = .ok (.iadd, 1) := by decide +kernel
theorem dX8_letsIn_25 : decode cX8_letsIn 25 = .ok (.iload_n 2, 1) := by decide +kernel
theorem dX8_letsIn_26 : decode cX8_letsIn 26 = .ok (.iastore, 1) := by decide +kernel
theorem dX8_letsIn_27 : decode cX8_letsIn 27 = .ok (.aload_n 0, 1) := by decide +kernel
theorem dX8_letsIn_28 : decode cX8_letsIn 28 = .ok (.iload 6, 2) := by decide +kernel
theorem dX8_letsIn_30 : decode cX8_letsIn 30 = .ok (.iconst 2, 1) := by decide +kernel
theorem dX8_letsIn_31 : decode cX8_letsIn 31 = .ok (.iadd, 1) := by decide +kernel
theorem dX8_letsIn_32 : decode cX8_letsIn 32 = .ok (.iconst 2, 1) := by decide +kernel
theorem dX8_letsIn_33 : decode cX8_letsIn 33 = .ok (.iastore, 1) := by decide +kernel
theorem dX8_letsIn_34 : decode cX8_letsIn 34 = .ok (.aload_n 0, 1) := by decide +kernel
theorem dX8_letsIn_35 : decode cX8_letsIn 35 = .ok (.iload 6, 2) := by decide +kernel
theorem dX8_letsIn_37 : decode cX8_letsIn 37 = .ok (.iconst 3, 1) := by decide +kernel
theorem dX8_letsIn_38 : decode cX8_letsIn 38 = .ok (.iadd, 1) := by decide +kernel
theorem dX8_letsIn_39 : decode cX8_letsIn 39 = .ok (.iconst 2, 1) := by decide +kernel
theorem dX8_letsIn_40 : decode cX8_letsIn 40 = .ok (.iastore, 1) := by decide +kernel
theorem dX8_letsIn_41 : decode cX8_letsIn 41 = .ok (.aload_n 0, 1) := by decide +kernel
theorem dX8_letsIn_42 : decode cX8_letsIn 42 = .ok (.iload 6, 2) := by decide +kernel
theorem dX8_letsIn_44 : decode cX8_letsIn 44 = .ok (.iconst 4, 1) := by decide +kernel
theorem dX8_letsIn_45 : decode cX8_letsIn 45 = .ok (.iadd, 1) := by decide +kernel
theorem dX8_letsIn_46 : decode cX8_letsIn 46 = .ok (.iload_n 3, 1) := by decide +kernel
theorem dX8_letsIn_47 : decode cX8_letsIn 47 = .ok (.iastore, 1) := by decide +kernel
theorem dX8_letsIn_48 : decode cX8_letsIn 48 = .ok (.aload_n 0, 1) := by decide +kernel
theorem dX8_letsIn_49 : decode cX8_letsIn 49 = .ok (.iload 6, 2) := by decide +kernel
theorem dX8_letsIn_51 : decode cX8_letsIn 51 = .ok (.iconst 5, 1) := by decide +kernel
theorem dX8_letsIn_52 : decode cX8_letsIn 52 = .ok (.iadd, 1) := by decide +kernel
theorem dX8_letsIn_53 : decode cX8_letsIn 53 = .ok (.iload 4, 2) := by decide +kernel
theorem dX8_letsIn_55 : decode cX8_letsIn 55 = .ok (.iastore, 1) := by decide +kernel
theorem dX8_letsIn_56 : decode cX8_letsIn 56 = .ok (.iconst 0, 1) := by decide +kernel
theorem dX8_letsIn_57 : decode cX8_letsIn 57 = .ok (.istore 7, 2) := by decide +kernel
theorem dX8_letsIn_59 : decode cX8_letsIn 59 = .ok (.iload 7, 2) := by decide +kernel
theorem dX8_letsIn_61 : decode cX8_letsIn 61 = .ok (.bipush 9, 2) := by decide +kernel
theorem dX8_letsIn_63 : decode cX8_letsIn 63 = .ok (.if_icmp .ge 91, 3) := by decide +kernel
theorem dX8_letsIn_66 : decode cX8_letsIn 66 = .ok (.aload_n 0, 1) := by decide +kernel
theorem dX8_letsIn_67 : decode cX8_letsIn 67 = .ok (.bipush 60, 2) := by decide +kernel
theorem dX8_letsIn_69 : decode cX8_letsIn 69 = .ok (.bipush 9, 2) := by decide +kernel
theorem dX8_letsIn_71 : decode cX8_letsIn 71 = .ok (.iload 5, 2) := by decide +kernel
theorem dX8_letsIn_73 : decode cX8_letsIn 73 = .ok (.imul, 1) := by decide +kernel
theorem dX8_letsIn_74 : decode cX8_letsIn 74 = .ok (.iadd, 1) := by decide +kernel
theorem dX8_letsIn_75 : decode cX8_letsIn 75 = .ok (.iload 7, 2) := by decide +kernel
theorem dX8_letsIn_77 : decode cX8_letsIn 77 = .ok (.iadd, 1) := by decide +kernel
theorem dX8_letsIn_78 : decode cX8_letsIn 78 = .ok (.iconst 1, 1) := by decide +kernel
theorem dX8_letsIn_79 : decode cX8_letsIn 79 = .ok (.iastore, 1) := by decide +kernel
theorem dX8_letsIn_80 : decode cX8_letsIn 80 = .ok (.aload_n 0, 1) := by decide +kernel
theorem dX8_letsIn_81 : decode cX8_letsIn 81 = .ok (.bipush 60, 2) := by decide +kernel
theorem dX8_letsIn_83 : decode cX8_letsIn 83 = .ok (.bipush 9, 2) := by decide +kernel
theorem dX8_letsIn_85 : decode cX8_letsIn 85 = .ok (.iload 7, 2) := by decide +kernel
theorem dX8_letsIn_87 : decode cX8_letsIn 87 = .ok (.imul, 1) := by decide +kernel
theorem dX8_letsIn_88 : decode cX8_letsIn 88 = .ok (.iadd, 1) := by decide +kernel
theorem dX8_letsIn_89 : decode cX8_letsIn 89 = .ok (.iload 5, 2) := by decide +kernel
theorem dX8_letsIn_91 : decode cX8_letsIn 91 = .ok (.iadd, 1) := by decide +kernel
theorem dX8_letsIn_92 : decode cX8_letsIn 92 = .ok (.iconst 1, 1) := by decide +kernel
theorem dX8_letsIn_93 : decode cX8_letsIn 93 = .ok (.iastore, 1) := by decide +kernel
theorem dX8_letsIn_94 : decode cX8_letsIn 94 = .ok (.aload_n 0, 1) := by decide +kernel
theorem dX8_letsIn_95 : decode cX8_letsIn 95 = .ok (.sipush 141, 3) := by decide +kernel
theorem dX8_letsIn_98 : decode cX8_letsIn 98 = .ok (.bipush 9, 2) := by decide +kernel
theorem dX8_letsIn_100 : decode cX8_letsIn 100 = .ok (.iload 5, 2) := by decide +kernel
theorem dX8_letsIn_102 : decode cX8_letsIn 102 = .ok (.imul, 1) := by decide +kernel
theorem dX8_letsIn_103 : decode cX8_letsIn 103 = .ok (.iadd, 1) := by decide +kernel
theorem dX8_letsIn_104 : decode cX8_letsIn 104 = .ok (.iload 7, 2) := by decide +kernel
theorem dX8_letsIn_106 : decode cX8_letsIn 106 = .ok (.iadd, 1) := by decide +kernel
theorem dX8_letsIn_107 : decode cX8_letsIn 107 = .ok (.iconst 2, 1) := by decide +kernel
theorem dX8_letsIn_108 : decode cX8_letsIn 108 = .ok (.iastore, 1) := by decide +kernel
theorem dX8_letsIn_109 : decode cX8_letsIn 109 = .ok (.aload_n 0, 1) := by decide +kernel
theorem dX8_letsIn_110 : decode cX8_letsIn 110 = .ok (.sipush 141, 3) := by decide +kernel
theorem dX8_letsIn_113 : decode cX8_letsIn 113 = .ok (.bipush 9, 2) := by decide +kernel
theorem dX8_letsIn_115 : decode cX8_letsIn 115 = .ok (.iload 7, 2) := by decide +kernel
theorem dX8_letsIn_117 : decode cX8_letsIn 117 = .ok (.imul, 1) := by decide +kernel
theorem dX8_letsIn_118 : decode cX8_letsIn 118 = .ok (.iadd, 1) := by decide +kernel
theorem dX8_letsIn_119 : decode cX8_letsIn 119 = .ok (.iload 5, 2) := by decide +kernel
theorem dX8_letsIn_121 : decode cX8_letsIn 121 = .ok (.iadd, 1) := by decide +kernel
theorem dX8_letsIn_122 : decode cX8_letsIn 122 = .ok (.iconst 2, 1) := by decide +kernel
theorem dX8_letsIn_123 : decode cX8_letsIn 123 = .ok (.iastore, 1) := by decide +kernel
theorem dX8_letsIn_124 : decode cX8_letsIn 124 = .ok (.aload_n 0, 1) := by decide +kernel
theorem dX8_letsIn_125 : decode cX8_letsIn 125 = .ok (.bipush 9, 2) := by decide +kernel
theorem dX8_letsIn_127 : decode cX8_letsIn 127 = .ok (.iload 5, 2) := by decide +kernel
theorem dX8_letsIn_129 : decode cX8_letsIn 129 = .ok (.imul, 1) := by decide +kernel
theorem dX8_letsIn_130 : decode cX8_letsIn 130 = .ok (.iload 7, 2) := by decide +kernel
theorem dX8_letsIn_132 : decode cX8_letsIn 132 = .ok (.iadd, 1) := by decide +kernel
theorem dX8_letsIn_133 : decode cX8_letsIn 133 = .ok (.invokestatic 55, 3) := by decide +kernel
theorem dX8_letsIn_136 : decode cX8_letsIn 136 = .ok (.aload_n 0, 1) := by decide +kernel
theorem dX8_letsIn_137 : decode cX8_letsIn 137 = .ok (.bipush 9, 2) := by decide +kernel
theorem dX8_letsIn_139 : decode cX8_letsIn 139 = .ok (.iload 7, 2) := by decide +kernel
theorem dX8_letsIn_141 : decode cX8_letsIn 141 = .ok (.imul, 1) := by decide +kernel
theorem dX8_letsIn_142 : decode cX8_letsIn 142 = .ok (.iload 5, 2) := by decide +kernel
theorem dX8_letsIn_144 : decode cX8_letsIn 144 = .ok (.iadd, 1) := by decide +kernel
theorem dX8_letsIn_145 : decode cX8_letsIn 145 = .ok (.invokestatic 55, 3) := by decide +kernel
theorem dX8_letsIn_148 : decode cX8_letsIn 148 = .ok (.iinc 7 1, 3) := by decide +kernel
theorem dX8_letsIn_151 : decode cX8_letsIn 151 = .ok (.goto (-92), 3) := by decide +kernel
theorem dX8_letsIn_154 : decode cX8_letsIn 154 = .ok (.aload_n 0, 1) := by decide +kernel
theorem dX8_letsIn_155 : decode cX8_letsIn 155 = .ok (.iconst 0, 1) := by decide +kernel
theorem dX8_letsIn_156 : decode cX8_letsIn 156 = .ok (.dup2, 1) := by decide +kernel
theorem dX8_letsIn_157 : decode cX8_letsIn 157 = .ok (.iaload, 1) := by decide +kernel
theorem dX8_letsIn_158 : decode cX8_letsIn 158 = .ok (.iconst 1, 1) := by decide +kernel
theorem dX8_letsIn_159 : decode cX8_letsIn 159 = .ok (.iadd, 1) := by decide +kernel
theorem dX8_letsIn_160 : decode cX8_letsIn 160 = .ok (.iastore, 1) := by decide +kernel
theorem dX8_letsIn_161 : decode cX8_letsIn 161 = .ok (.return_, 1) := by decide +kernel
theorem dX8_clears_0 : decode cX8_clears 0 = .ok (.iconst 0, 1) := by decide +kernel
theorem dX8_clears_1 : decode cX8_clears 1 = .ok (.istore_n 2, 1) := by decide +kernel
theorem dX8_clears_2 : decode cX8_clears 2 = .ok (.iload_n 2, 1) := by decide +kernel
theorem dX8_clears_3 : decode cX8_clears 3 = .ok (.bipush 19, 2) := by decide +kernel
theorem dX8_clears_5 : decode cX8_clears 5 = .ok (.if_icmp .ge 22, 3) := by decide +kernel
theorem dX8_clears_8 : decode cX8_clears 8 = .ok (.aload_n 0, 1) := by decide +kernel
theorem dX8_clears_9 : decode cX8_clears 9 = .ok (.sipush 222, 3) := by decide +kernel
theorem dX8_clears_12 : decode cX8_clears 12 = .ok (.bipush 19, 2) := by decide +kernel
theorem dX8_clears_14 : decode cX8_clears 14 = .ok (.iload_n 1, 1) := by decide +kernel
theorem dX8_clears_15 : decode cX8_clears 15 = .ok (.imul, 1) := by decide +kernel
theorem dX8_clears_16 : decode cX8_clears 16 = .ok (.iadd, 1) := by decide +kernel
theorem dX8_clears_17 : decode cX8_clears 17 = .ok (.iload_n 2, 1) := by decide +kernel
theorem dX8_clears_18 : decode cX8_clears 18 = .ok (.iadd, 1) := by decide +kernel
theorem dX8_clears_19 : decode cX8_clears 19 = .ok (.iconst 0, 1) := by decide +kernel
theorem dX8_clears_20 : decode cX8_clears 20 = .ok (.iastore, 1) := by decide +kernel
theorem dX8_clears_21 : decode cX8_clears 21 = .ok (.iinc 2 1, 3) := by decide +kernel
theorem dX8_clears_24 : decode cX8_clears 24 = .ok (.goto (-22), 3) := by decide +kernel
theorem dX8_clears_27 : decode cX8_clears 27 = .ok (.return_, 1) := by decide +kernel
theorem dX8_rock_0 : decode cX8_rock 0 = .ok (.aload_n 0, 1) := by decide +kernel
theorem dX8_rock_1 : decode cX8_rock 1 = .ok (.iconst 0, 1) := by decide +kernel
theorem dX8_rock_2 : decode cX8_rock 2 = .ok (.putfield 48, 3) := by decide +kernel
theorem dX8_rock_5 : decode cX8_rock 5 = .ok (.iload_n 1, 1) := by decide +kernel
theorem dX8_rock_6 : decode cX8_rock 6 = .ok (.i2l, 1) := by decide +kernel
theorem dX8_rock_7 : decode cX8_rock 7 = .ok (.lconst 0, 1) := by decide +kernel
theorem dX8_rock_8 : decode cX8_rock 8 = .ok (.ldc2_w 59, 3) := by decide +kernel
theorem dX8_rock_11 : decode cX8_rock 11 = .ok (.invokestatic 51, 3) := by decide +kernel
theorem dX8_rock_14 : decode cX8_rock 14 = .ok (.ifCond .eq 13, 3) := by decide +kernel
theorem dX8_rock_17 : decode cX8_rock 17 = .ok (.iload_n 2, 1) := by decide +kernel
theorem dX8_rock_18 : decode cX8_rock 18 = .ok (.i2l, 1) := by decide +kernel
theorem dX8_rock_19 : decode cX8_rock 19 = .ok (.lconst 0, 1) := by decide +kernel
theorem dX8_rock_20 : decode cX8_rock 20 = .ok (.lconst 1, 1) := by decide +kernel
theorem dX8_rock_21 : decode cX8_rock 21 = .ok (.invokestatic 51, 3) := by decide +kernel
theorem dX8_rock_24 : decode cX8_rock 24 = .ok (.ifCond .ne 5, 3) := by decide +kernel
theorem dX8_rock_27 : decode cX8_rock 27 = .ok (.iconst (-1), 1) := by decide +kernel
theorem dX8_rock_28 : decode cX8_rock 28 = .ok (.ireturn, 1) := by decide +kernel
theorem dX8_rock_29 : decode cX8_rock 29 = .ok (.aload_n 0, 1) := by decide +kernel
theorem dX8_rock_30 : decode cX8_rock 30 = .ok (.getfield 7, 3) := by decide +kernel
theorem dX8_rock_33 : decode cX8_rock 33 = .ok (.iconst 0, 1) := by decide +kernel
theorem dX8_rock_34 : decode cX8_rock 34 = .ok (.iaload, 1) := by decide +kernel
theorem dX8_rock_35 : decode cX8_rock 35 = .ok (.bipush 9, 2) := by decide +kernel
theorem dX8_rock_37 : decode cX8_rock 37 = .ok (.if_icmp .ne 6, 3) := by decide +kernel
theorem dX8_rock_40 : decode cX8_rock 40 = .ok (.bipush (-3), 2) := by decide +kernel
theorem dX8_rock_42 : decode cX8_rock 42 = .ok (.ireturn, 1) := by decide +kernel
theorem dX8_rock_43 : decode cX8_rock 43 = .ok (.aload_n 0, 1) := by decide +kernel
theorem dX8_rock_44 : decode cX8_rock 44 = .ok (.getfield 7, 3) := by decide +kernel
theorem dX8_rock_47 : decode cX8_rock 47 = .ok (.iload_n 1, 1) := by decide +kernel
theorem dX8_rock_48 : decode cX8_rock 48 = .ok (.iload_n 2, 1) := by decide +kernel
theorem dX8_rock_49 : decode cX8_rock 49 = .ok (.iconst 0, 1) := by decide +kernel
theorem dX8_rock_50 : decode cX8_rock 50 = .ok (.iconst 0, 1) := by decide +kernel
theorem dX8_rock_51 : decode cX8_rock 51 = .ok (.invokestatic 61, 3) := by decide +kernel
theorem dX8_rock_54 : decode cX8_rock 54 = .ok (.aload_n 0, 1) := by decide +kernel
theorem dX8_rock_55 : decode cX8_rock 55 = .ok (.getfield 7, 3) := by decide +kernel
theorem dX8_rock_58 : decode cX8_rock 58 = .ok (.iconst 0, 1) := by decide +kernel
theorem dX8_rock_59 : decode cX8_rock 59 = .ok (.iaload, 1) := by decide +kernel
theorem dX8_rock_60 : decode cX8_rock 60 = .ok (.iconst 1, 1) := by decide +kernel
theorem dX8_rock_61 : decode cX8_rock 61 = .ok (.isub, 1) := by decide +kernel
theorem dX8_rock_62 : decode cX8_rock 62 = .ok (.ireturn, 1) := by decide +kernel
theorem dX8_out_0 : decode cX8_out 0 = .ok (.aload_n 0, 1) := by decide +kernel
theorem dX8_out_1 : decode cX8_out 1 = .ok (.iconst 0, 1) := by decide +kernel
theorem dX8_out_2 : decode cX8_out 2 = .ok (.putfield 48, 3) := by decide +kernel
theorem dX8_out_5 : decode cX8_out 5 = .ok (.aload_n 0, 1) := by decide +kernel
theorem dX8_out_6 : decode cX8_out 6 = .ok (.getfield 7, 3) := by decide +kernel
theorem dX8_out_9 : decode cX8_out 9 = .ok (.iconst 0, 1) := by decide +kernel
theorem dX8_out_10 : decode cX8_out 10 = .ok (.iaload, 1) := by decide +kernel
theorem dX8_out_11 : decode cX8_out 11 = .ok (.ifCond .ne 6, 3) := by decide +kernel
theorem dX8_out_14 : decode cX8_out 14 = .ok (.bipush (-4), 2) := by decide +kernel
theorem dX8_out_16 : decode cX8_out 16 = .ok (.ireturn, 1) := by decide +kernel
theorem dX8_out_17 : decode cX8_out 17 = .ok (.aload_n 0, 1) := by decide +kernel
theorem dX8_out_18 : decode cX8_out 18 = .ok (.getfield 7, 3) := by decide +kernel
theorem dX8_out_21 : decode cX8_out 21 = .ok (.iconst 0, 1) := by decide +kernel
theorem dX8_out_22 : decode cX8_out 22 = .ok (.dup2, 1) := by decide +kernel
theorem dX8_out_23 : decode cX8_out 23 = .ok (.iaload, 1) := by decide +kernel
theorem dX8_out_24 : decode cX8_out 24 = .ok (.iconst 1, 1) := by decide +kernel
theorem dX8_out_25 : decode cX8_out 25 = .ok (.isub, 1) := by decide +kernel
theorem dX8_out_26 : decode cX8_out 26 = .ok (.iastore, 1) := by decide +kernel
theorem dX8_out_27 : decode cX8_out 27 = .ok (.aload_n 0, 1) := by decide +kernel
theorem dX8_out_28 : decode cX8_out 28 = .ok (.getfield 7, 3) := by decide +kernel
theorem dX8_out_31 : decode cX8_out 31 = .ok (.iconst 0, 1) := by decide +kernel
theorem dX8_out_32 : decode cX8_out 32 = .ok (.iaload, 1) := by decide +kernel
theorem dX8_out_33 : decode cX8_out 33 = .ok (.istore_n 1, 1) := by decide +kernel
theorem dX8_out_34 : decode cX8_out 34 = .ok (.iconst 0, 1) := by decide +kernel
theorem dX8_out_35 : decode cX8_out 35 = .ok (.istore_n 2, 1) := by decide +kernel
theorem dX8_out_36 : decode cX8_out 36 = .ok (.iload_n 2, 1) := by decide +kernel
theorem dX8_out_37 : decode cX8_out 37 = .ok (.bipush 9, 2) := by decide +kernel
theorem dX8_out_39 : decode cX8_out 39 = .ok (.if_icmp .ge 51, 3) := by decide +kernel
theorem dX8_out_42 : decode cX8_out 42 = .ok (.aload_n 0, 1) := by decide +kernel
theorem dX8_out_43 : decode cX8_out 43 = .ok (.getfield 7, 3) := by decide +kernel
theorem dX8_out_46 : decode cX8_out 46 = .ok (.sipush 141, 3) := by decide +kernel
theorem dX8_out_49 : decode cX8_out 49 = .ok (.bipush 9, 2) := by decide +kernel
theorem dX8_out_51 : decode cX8_out 51 = .ok (.iload_n 2, 1) := by decide +kernel
theorem dX8_out_52 : decode cX8_out 52 = .ok (.imul, 1) := by decide +kernel
theorem dX8_out_53 : decode cX8_out 53 = .ok (.iadd, 1) := by decide +kernel
theorem dX8_out_54 : decode cX8_out 54 = .ok (.iload_n 1, 1) := by decide +kernel
theorem dX8_out_55 : decode cX8_out 55 = .ok (.iadd, 1) := by decide +kernel
theorem dX8_out_56 : decode cX8_out 56 = .ok (.iconst 2, 1) := by decide +kernel
theorem dX8_out_57 : decode cX8_out 57 = .ok (.iastore, 1) := by decide +kernel
theorem dX8_out_58 : decode cX8_out 58 = .ok (.aload_n 0, 1) := by decide +kernel
theorem dX8_out_59 : decode cX8_out 59 = .ok (.getfield 7, 3) := by decide +kernel
theorem dX8_out_62 : decode cX8_out 62 = .ok (.bipush 9, 2) := by decide +kernel
theorem dX8_out_64 : decode cX8_out 64 = .ok (.iload_n 1, 1) := by decide +kernel
theorem dX8_out_65 : decode cX8_out 65 = .ok (.imul, 1) := by decide +kernel
theorem dX8_out_66 : decode cX8_out 66 = .ok (.iload_n 2, 1) := by decide +kernel
theorem dX8_out_67 : decode cX8_out 67 = .ok (.iadd, 1) := by decide +kernel
theorem dX8_out_68 : decode cX8_out 68 = .ok (.invokestatic 55, 3) := by decide +kernel
theorem dX8_out_71 : decode cX8_out 71 = .ok (.aload_n 0, 1) := by decide +kernel
theorem dX8_out_72 : decode cX8_out 72 = .ok (.getfield 7, 3) := by decide +kernel
theorem dX8_out_75 : decode cX8_out 75 = .ok (.bipush 9, 2) := by decide +kernel
theorem dX8_out_77 : decode cX8_out 77 = .ok (.iload_n 2, 1) := by decide +kernel
theorem dX8_out_78 : decode cX8_out 78 = .ok (.imul, 1) := by decide +kernel
theorem dX8_out_79 : decode cX8_out 79 = .ok (.iload_n 1, 1) := by decide +kernel
theorem dX8_out_80 : decode cX8_out 80 = .ok (.iadd, 1) := by decide +kernel
theorem dX8_out_81 : decode cX8_out 81 = .ok (.invokestatic 55, 3) := by decide +kernel
theorem dX8_out_84 : decode cX8_out 84 = .ok (.iinc 2 1, 3) := by decide +kernel
theorem dX8_out_87 : decode cX8_out 87 = .ok (.goto (-51), 3) := by decide +kernel
theorem dX8_out_90 : decode cX8_out 90 = .ok (.iload_n 1, 1) := by decide +kernel
theorem dX8_out_91 : decode cX8_out 91 = .ok (.ireturn, 1) := by decide +kernel
theorem dX8_turn_0 : decode cX8_turn 0 = .ok (.aload_n 0, 1) := by decide +kernel
theorem dX8_turn_1 : decode cX8_turn 1 = .ok (.iconst 0, 1) := by decide +kernel
theorem dX8_turn_2 : decode cX8_turn 2 = .ok (.putfield 48, 3) := by decide +kernel
theorem dX8_turn_5 : decode cX8_turn 5 = .ok (.aload_n 0, 1) := by decide +kernel
theorem dX8_turn_6 : decode cX8_turn 6 = .ok (.iload_n 1, 1) := by decide +kernel
theorem dX8_turn_7 : decode cX8_turn 7 = .ok (.invokevirtual 65, 3) := by decide +kernel
theorem dX8_turn_10 : decode cX8_turn 10 = .ok (.ifCond .eq 15, 3) := by decide +kernel
theorem dX8_turn_13 : decode cX8_turn 13 = .ok (.iload_n 2, 1) := by decide +kernel
theorem dX8_turn_14 : decode cX8_turn 14 = .ok (.i2l, 1) := by decide +kernel
theorem dX8_turn_15 : decode cX8_turn 15 = .ok (.lconst 0, 1) := by decide +kernel
theorem dX8_turn_16 : decode cX8_turn 16 = .ok (.ldc2_w 59, 3) := by decide +kernel
theorem dX8_turn_19 : decode cX8_turn 19 = .ok (.invokestatic 51, 3) := by decide +kernel
theorem dX8_turn_22 : decode cX8_turn 22 = .ok (.ifCond .ne 5, 3) := by decide +kernel
theorem dX8_turn_25 : decode cX8_turn 25 = .ok (.iconst (-1), 1) := by decide +kernel
theorem dX8_turn_26 : decode cX8_turn 26 = .ok (.ireturn, 1) := by decide +kernel
theorem dX8_turn_27 : decode cX8_turn 27 = .ok (.aload_n 0, 1) := by decide +kernel
theorem dX8_turn_28 : decode cX8_turn 28 = .ok (.getfield 7, 3) := by decide +kernel
theorem dX8_turn_31 : decode cX8_turn 31 = .ok (.bipush 6, 2) := by decide +kernel
theorem dX8_turn_33 : decode cX8_turn 33 = .ok (.bipush 6, 2) := by decide +kernel
theorem dX8_turn_35 : decode cX8_turn 35 = .ok (.iload_n 1, 1) := by decide +kernel
theorem dX8_turn_36 : decode cX8_turn 36 = .ok (.imul, 1) := by decide +kernel
theorem dX8_turn_37 : decode cX8_turn 37 = .ok (.iadd, 1) := by decide +kernel
theorem dX8_turn_38 : decode cX8_turn 38 = .ok (.iaload, 1) := by decide +kernel
theorem dX8_turn_39 : decode cX8_turn 39 = .ok (.istore_n 3, 1) := by decide +kernel
theorem dX8_turn_40 : decode cX8_turn 40 = .ok (.aload_n 0, 1) := by decide +kernel
theorem dX8_turn_41 : decode cX8_turn 41 = .ok (.getfield 7, 3) := by decide +kernel
theorem dX8_turn_44 : decode cX8_turn 44 = .ok (.bipush 6, 2) := by decide +kernel
theorem dX8_turn_46 : decode cX8_turn 46 = .ok (.bipush 6, 2) := by decide +kernel
theorem dX8_turn_48 : decode cX8_turn 48 = .ok (.iload_n 1, 1) := by decide +kernel
theorem dX8_turn_49 : decode cX8_turn 49 = .ok (.imul, 1) := by decide +kernel
theorem dX8_turn_50 : decode cX8_turn 50 = .ok (.iadd, 1) := by decide +kernel
theorem dX8_turn_51 : decode cX8_turn 51 = .ok (.iload_n 2, 1) := by decide +kernel
theorem dX8_turn_52 : decode cX8_turn 52 = .ok (.iastore, 1) := by decide +kernel
theorem dX8_turn_53 : decode cX8_turn 53 = .ok (.iload_n 3, 1) := by decide +kernel
theorem dX8_turn_54 : decode cX8_turn 54 = .ok (.ireturn, 1) := by decide +kernel
theorem dX8_isDark_0 : decode cX8_isDark 0 = .ok (.bipush 6, 2) := by decide +kernel
theorem dX8_isDark_2 : decode cX8_isDark 2 = .ok (.bipush 6, 2) := by decide +kernel
theorem dX8_isDark_4 : decode cX8_isDark 4 = .ok (.iload_n 1, 1) := by decide +kernel
theorem dX8_isDark_5 : decode cX8_isDark 5 = .ok (.imul, 1) := by decide +kernel
theorem dX8_isDark_6 : decode cX8_isDark 6 = .ok (.iadd, 1) := by decide +kernel
theorem dX8_isDark_7 : decode cX8_isDark 7 = .ok (.istore_n 2, 1) := by decide +kernel
theorem dX8_isDark_8 : decode cX8_isDark 8 = .ok (.aload_n 0, 1) := by decide +kernel
theorem dX8_isDark_9 : decode cX8_isDark 9 = .ok (.iconst 1, 1) := by decide +kernel
theorem dX8_isDark_10 : decode cX8_isDark 10 = .ok (.iaload, 1) := by decide +kernel
theorem dX8_isDark_11 : decode cX8_isDark 11 = .ok (.aload_n 0, 1) := by decide +kernel
theorem dX8_isDark_12 : decode cX8_isDark 12 = .ok (.iload_n 2, 1) := by decide +kernel
theorem dX8_isDark_13 : decode cX8_isDark 13 = .ok (.iconst 4, 1) := by decide +kernel
theorem dX8_isDark_14 : decode cX8_isDark 14 = .ok (.iadd, 1) := by decide +kernel
theorem dX8_isDark_15 : decode cX8_isDark 15 = .ok (.iaload, 1) := by decide +kernel
theorem dX8_isDark_16 : decode cX8_isDark 16 = .ok (.if_icmp .lt 18, 3) := by decide +kernel
theorem dX8_isDark_19 : decode cX8_isDark 19 = .ok (.aload_n 0, 1) := by decide +kernel
theorem dX8_isDark_20 : decode cX8_isDark 20 = .ok (.iconst 1, 1) := by decide +kernel
theorem dX8_isDark_21 : decode cX8_isDark 21 = .ok (.iaload, 1) := by decide +kernel
theorem dX8_isDark_22 : decode cX8_isDark 22 = .ok (.aload_n 0, 1) := by decide +kernel
theorem dX8_isDark_23 : decode cX8_isDark 23 = .ok (.iload_n 2, 1) := by decide +kernel
theorem dX8_isDark_24 : decode cX8_isDark 24 = .ok (.iconst 5, 1) := by decide +kernel
theorem dX8_isDark_25 : decode cX8_isDark 25 = .ok (.iadd, 1) := by decide +kernel
theorem dX8_isDark_26 : decode cX8_isDark 26 = .ok (.iaload, 1) := by decide +kernel
theorem dX8_isDark_27 : decode cX8_isDark 27 = .ok (.if_icmp .ge 7, 3) := by decide +kernel
theorem dX8_isDark_30 : decode cX8_isDark 30 = .ok (.iconst 1, 1) := by decide +kernel
theorem dX8_isDark_31 : decode cX8_isDark 31 = .ok (.goto 4, 3) := by decide +kernel
theorem dX8_isDark_34 : decode cX8_isDark 34 = .ok (.iconst 0, 1) := by decide +kernel
theorem dX8_isDark_35 : decode cX8_isDark 35 = .ok (.ireturn, 1) := by decide +kernel
theorem dX8_dark_0 : decode cX8_dark 0 = .ok (.aload_n 0, 1) := by decide +kernel
theorem dX8_dark_1 : decode cX8_dark 1 = .ok (.iconst 0, 1) := by decide +kernel
theorem dX8_dark_2 : decode cX8_dark 2 = .ok (.putfield 48, 3) := by decide +kernel
theorem dX8_dark_5 : decode cX8_dark 5 = .ok (.aload_n 0, 1) := by decide +kernel
theorem dX8_dark_6 : decode cX8_dark 6 = .ok (.iload_n 1, 1) := by decide +kernel
theorem dX8_dark_7 : decode cX8_dark 7 = .ok (.invokevirtual 65, 3) := by decide +kernel
theorem dX8_dark_10 : decode cX8_dark 10 = .ok (.ifCond .eq 27, 3) := by decide +kernel
theorem dX8_dark_13 : decode cX8_dark 13 = .ok (.iload_n 2, 1) := by decide +kernel
theorem dX8_dark_14 : decode cX8_dark 14 = .ok (.i2l, 1) := by decide +kernel
theorem dX8_dark_15 : decode cX8_dark 15 = .ok (.lconst 0, 1) := by decide +kernel
theorem dX8_dark_16 : decode cX8_dark 16 = .ok (.ldc2_w 69, 3) := by decide +kernel
theorem dX8_dark_19 : decode cX8_dark 19 = .ok (.invokestatic 51, 3) := by decide +kernel
theorem dX8_dark_22 : decode cX8_dark 22 = .ok (.ifCond .eq 15, 3) := by decide +kernel
theorem dX8_dark_25 : decode cX8_dark 25 = .ok (.iload_n 3, 1) := by decide +kernel
theorem dX8_dark_26 : decode cX8_dark 26 = .ok (.i2l, 1) := by decide +kernel
theorem dX8_dark_27 : decode cX8_dark 27 = .ok (.lconst 0, 1) := by decide +kernel
theorem dX8_dark_28 : decode cX8_dark 28 = .ok (.ldc2_w 71, 3) := by decide +kernel
theorem dX8_dark_31 : decode cX8_dark 31 = .ok (.invokestatic 51, 3) := by decide +kernel
theorem dX8_dark_34 : decode cX8_dark 34 = .ok (.ifCond .ne 5, 3) := by decide +kernel
theorem dX8_dark_37 : decode cX8_dark 37 = .ok (.iconst (-1), 1) := by decide +kernel
theorem dX8_dark_38 : decode cX8_dark 38 = .ok (.ireturn, 1) := by decide +kernel
theorem dX8_dark_39 : decode cX8_dark 39 = .ok (.aload_n 0, 1) := by decide +kernel
theorem dX8_dark_40 : decode cX8_dark 40 = .ok (.getfield 7, 3) := by decide +kernel
theorem dX8_dark_43 : decode cX8_dark 43 = .ok (.bipush 6, 2) := by decide +kernel
theorem dX8_dark_45 : decode cX8_dark 45 = .ok (.bipush 6, 2) := by decide +kernel
theorem dX8_dark_47 : decode cX8_dark 47 = .ok (.iload_n 1, 1) := by decide +kernel
theorem dX8_dark_48 : decode cX8_dark 48 = .ok (.imul, 1) := by decide +kernel
theorem dX8_dark_49 : decode cX8_dark 49 = .ok (.iadd, 1) := by decide +kernel
theorem dX8_dark_50 : decode cX8_dark 50 = .ok (.iconst 4, 1) := by decide +kernel
theorem dX8_dark_51 : decode cX8_dark 51 = .ok (.iadd, 1) := by decide +kernel
theorem dX8_dark_52 : decode cX8_dark 52 = .ok (.iload_n 2, 1) := by decide +kernel
theorem dX8_dark_53 : decode cX8_dark 53 = .ok (.iastore, 1) := by decide +kernel
theorem dX8_dark_54 : decode cX8_dark 54 = .ok (.aload_n 0, 1) := by decide +kernel
theorem dX8_dark_55 : decode cX8_dark 55 = .ok (.getfield 7, 3) := by decide +kernel
theorem dX8_dark_58 : decode cX8_dark 58 = .ok (.bipush 6, 2) := by decide +kernel
theorem dX8_dark_60 : decode cX8_dark 60 = .ok (.bipush 6, 2) := by decide +kernel
theorem dX8_dark_62 : decode cX8_dark 62 = .ok (.iload_n 1, 1) := by decide +kernel
theorem dX8_dark_63 : decode cX8_dark 63 = .ok (.imul, 1) := by decide +kernel
theorem dX8_dark_64 : decode cX8_dark 64 = .ok (.iadd, 1) := by decide +kernel
theorem dX8_dark_65 : decode cX8_dark 65 = .ok (.iconst 5, 1) := by decide +kernel
theorem dX8_dark_66 : decode cX8_dark 66 = .ok (.iadd, 1) := by decide +kernel
theorem dX8_dark_67 : decode cX8_dark 67 = .ok (.iload_n 3, 1) := by decide +kernel
theorem dX8_dark_68 : decode cX8_dark 68 = .ok (.iastore, 1) := by decide +kernel
theorem dX8_dark_69 : decode cX8_dark 69 = .ok (.aload_n 0, 1) := by decide +kernel
theorem dX8_dark_70 : decode cX8_dark 70 = .ok (.getfield 7, 3) := by decide +kernel
theorem dX8_dark_73 : decode cX8_dark 73 = .ok (.iload_n 1, 1) := by decide +kernel
theorem dX8_dark_74 : decode cX8_dark 74 = .ok (.invokestatic 73, 3) := by decide +kernel
theorem dX8_dark_77 : decode cX8_dark 77 = .ok (.ifCond .eq 7, 3) := by decide +kernel
theorem dX8_dark_80 : decode cX8_dark 80 = .ok (.iconst 1, 1) := by decide +kernel
theorem dX8_dark_81 : decode cX8_dark 81 = .ok (.goto 4, 3) := by decide +kernel
theorem dX8_dark_84 : decode cX8_dark 84 = .ok (.iconst 0, 1) := by decide +kernel
theorem dX8_dark_85 : decode cX8_dark 85 = .ok (.ireturn, 1) := by decide +kernel
theorem dX8_delay_0 : decode cX8_delay 0 = .ok (.aload_n 0, 1) := by decide +kernel
theorem dX8_delay_1 : decode cX8_delay 1 = .ok (.iconst 0, 1) := by decide +kernel
theorem dX8_delay_2 : decode cX8_delay 2 = .ok (.putfield 48, 3) := by decide +kernel
theorem dX8_delay_5 : decode cX8_delay 5 = .ok (.aload_n 0, 1) := by decide +kernel
theorem dX8_delay_6 : decode cX8_delay 6 = .ok (.iload_n 1, 1) := by decide +kernel
theorem dX8_delay_7 : decode cX8_delay 7 = .ok (.invokevirtual 65, 3) := by decide +kernel
theorem dX8_delay_10 : decode cX8_delay 10 = .ok (.ifCond .eq 28, 3) := by decide +kernel
theorem dX8_delay_13 : decode cX8_delay 13 = .ok (.aload_n 0, 1) := by decide +kernel
theorem dX8_delay_14 : decode cX8_delay 14 = .ok (.iload_n 2, 1) := by decide +kernel
theorem dX8_delay_15 : decode cX8_delay 15 = .ok (.invokevirtual 65, 3) := by decide +kernel
theorem dX8_delay_18 : decode cX8_delay 18 = .ok (.ifCond .eq 20, 3) := by decide +kernel
theorem dX8_delay_21 : decode cX8_delay 21 = .ok (.iload_n 1, 1) := by decide +kernel
theorem dX8_delay_22 : decode cX8_delay 22 = .ok (.iload_n 2, 1) := by decide +kernel
theorem dX8_delay_23 : decode cX8_delay 23 = .ok (.if_icmp .eq 15, 3) := by decide +kernel
theorem dX8_delay_26 : decode cX8_delay 26 = .ok (.iload_n 3, 1) := by decide +kernel
theorem dX8_delay_27 : decode cX8_delay 27 = .ok (.i2l, 1) := by decide +kernel
theorem dX8_delay_28 : decode cX8_delay 28 = .ok (.lconst 1, 1) := by decide +kernel
theorem dX8_delay_29 : decode cX8_delay 29 = .ok (.ldc2_w 77, 3) := by decide +kernel
theorem dX8_delay_32 : decode cX8_delay 32 = .ok (.invokestatic 51, 3) := by decide +kernel
theorem dX8_delay_35 : decode cX8_delay 35 = .ok (.ifCond .ne 5, 3) := by decide +kernel
theorem dX8_delay_38 : decode cX8_delay 38 = .ok (.iconst (-1), 1) := by decide +kernel
theorem dX8_delay_39 : decode cX8_delay 39 = .ok (.ireturn, 1) := by decide +kernel
theorem dX8_delay_40 : decode cX8_delay 40 = .ok (.aload_n 0, 1) := by decide +kernel
theorem dX8_delay_41 : decode cX8_delay 41 = .ok (.getfield 7, 3) := by decide +kernel
theorem dX8_delay_44 : decode cX8_delay 44 = .ok (.bipush 60, 2) := by decide +kernel
theorem dX8_delay_46 : decode cX8_delay 46 = .ok (.bipush 9, 2) := by decide +kernel
theorem dX8_delay_48 : decode cX8_delay 48 = .ok (.iload_n 1, 1) := by decide +kernel
theorem dX8_delay_49 : decode cX8_delay 49 = .ok (.imul, 1) := by decide +kernel
theorem dX8_delay_50 : decode cX8_delay 50 = .ok (.iadd, 1) := by decide +kernel
theorem dX8_delay_51 : decode cX8_delay 51 = .ok (.iload_n 2, 1) := by decide +kernel
theorem dX8_delay_52 : decode cX8_delay 52 = .ok (.iadd, 1) := by decide +kernel
theorem dX8_delay_53 : decode cX8_delay 53 = .ok (.iaload, 1) := by decide +kernel
theorem dX8_delay_54 : decode cX8_delay 54 = .ok (.istore 4, 2) := by decide +kernel
theorem dX8_delay_56 : decode cX8_delay 56 = .ok (.aload_n 0, 1) := by decide +kernel
theorem dX8_delay_57 : decode cX8_delay 57 = .ok (.getfield 7, 3) := by decide +kernel
theorem dX8_delay_60 : decode cX8_delay 60 = .ok (.bipush 60, 2) := by decide +kernel
theorem dX8_delay_62 : decode cX8_delay 62 = .ok (.bipush 9, 2) := by decide +kernel
theorem dX8_delay_64 : decode cX8_delay 64 = .ok (.iload_n 1, 1) := by decide +kernel
theorem dX8_delay_65 : decode cX8_delay 65 = .ok (.imul, 1) := by decide +kernel
theorem dX8_delay_66 : decode cX8_delay 66 = .ok (.iadd, 1) := by decide +kernel
theorem dX8_delay_67 : decode cX8_delay 67 = .ok (.iload_n 2, 1) := by decide +kernel
theorem dX8_delay_68 : decode cX8_delay 68 = .ok (.iadd, 1) := by decide +kernel
theorem dX8_delay_69 : decode cX8_delay 69 = .ok (.iload_n 3, 1) := by decide +kernel
theorem dX8_delay_70 : decode cX8_delay 70 = .ok (.iastore, 1) := by decide +kernel
theorem dX8_delay_71 : decode cX8_delay 71 = .ok (.iload 4, 2) := by decide +kernel
theorem dX8_delay_73 : decode cX8_delay 73 = .ok (.ireturn, 1) := by decide +kernel
theorem dX8_isTrue_0 : decode cX8_isTrue 0 = .ok (.aload_n 0, 1) := by decide +kernel
theorem dX8_isTrue_1 : decode cX8_isTrue 1 = .ok (.bipush 6, 2) := by decide +kernel
theorem dX8_isTrue_3 : decode cX8_isTrue 3 = .ok (.bipush 6, 2) := by decide +kernel
theorem dX8_isTrue_5 : decode cX8_isTrue 5 = .ok (.iload_n 1, 1) := by decide +kernel
theorem dX8_isTrue_6 : decode cX8_isTrue 6 = .ok (.imul, 1) := by decide +kernel
theorem dX8_isTrue_7 : decode cX8_isTrue 7 = .ok (.iadd, 1) := by decide +kernel
theorem dX8_isTrue_8 : decode cX8_isTrue 8 = .ok (.iaload, 1) := by decide +kernel
theorem dX8_isTrue_9 : decode cX8_isTrue 9 = .ok (.istore_n 2, 1) := by decide +kernel
theorem dX8_isTrue_10 : decode cX8_isTrue 10 = .ok (.iload_n 2, 1) := by decide +kernel
theorem dX8_isTrue_11 : decode cX8_isTrue 11 = .ok (.ifCond .eq 8, 3) := by decide +kernel
theorem dX8_isTrue_14 : decode cX8_isTrue 14 = .ok (.iload_n 2, 1) := by decide +kernel
theorem dX8_isTrue_15 : decode cX8_isTrue 15 = .ok (.iconst 3, 1) := by decide +kernel
theorem dX8_isTrue_16 : decode cX8_isTrue 16 = .ok (.if_icmp .ne 7, 3) := by decide +kernel
theorem dX8_isTrue_19 : decode cX8_isTrue 19 = .ok (.iconst 1, 1) := by decide +kernel
theorem dX8_isTrue_20 : decode cX8_isTrue 20 = .ok (.goto 4, 3) := by decide +kernel
theorem dX8_isTrue_23 : decode cX8_isTrue 23 = .ok (.iconst 0, 1) := by decide +kernel
theorem dX8_isTrue_24 : decode cX8_isTrue 24 = .ok (.ireturn, 1) := by decide +kernel
theorem dX8_told_0 : decode cX8_told 0 = .ok (.aload_n 0, 1) := by decide +kernel
theorem dX8_told_1 : decode cX8_told 1 = .ok (.iconst 0, 1) := by decide +kernel
theorem dX8_told_2 : decode cX8_told 2 = .ok (.putfield 48, 3) := by decide +kernel
theorem dX8_told_5 : decode cX8_told 5 = .ok (.aload_n 0, 1) := by decide +kernel
theorem dX8_told_6 : decode cX8_told 6 = .ok (.iload_n 1, 1) := by decide +kernel
theorem dX8_told_7 : decode cX8_told 7 = .ok (.invokevirtual 65, 3) := by decide +kernel
theorem dX8_told_10 : decode cX8_told 10 = .ok (.ifCond .eq 15, 3) := by decide +kernel
theorem dX8_told_13 : decode cX8_told 13 = .ok (.iload_n 2, 1) := by decide +kernel
theorem dX8_told_14 : decode cX8_told 14 = .ok (.i2l, 1) := by decide +kernel
theorem dX8_told_15 : decode cX8_told 15 = .ok (.lconst 0, 1) := by decide +kernel
theorem dX8_told_16 : decode cX8_told 16 = .ok (.ldc2_w 79, 3) := by decide +kernel
theorem dX8_told_19 : decode cX8_told 19 = .ok (.invokestatic 51, 3) := by decide +kernel
theorem dX8_told_22 : decode cX8_told 22 = .ok (.ifCond .ne 5, 3) := by decide +kernel
theorem dX8_told_25 : decode cX8_told 25 = .ok (.iconst (-1), 1) := by decide +kernel
theorem dX8_told_26 : decode cX8_told 26 = .ok (.ireturn, 1) := by decide +kernel
theorem dX8_told_27 : decode cX8_told 27 = .ok (.iload_n 2, 1) := by decide +kernel
theorem dX8_told_28 : decode cX8_told 28 = .ok (.bipush 6, 2) := by decide +kernel
theorem dX8_told_30 : decode cX8_told 30 = .ok (.if_icmp .ge 18, 3) := by decide +kernel
theorem dX8_told_33 : decode cX8_told 33 = .ok (.aload_n 0, 1) := by decide +kernel
theorem dX8_told_34 : decode cX8_told 34 = .ok (.getfield 7, 3) := by decide +kernel
theorem dX8_told_37 : decode cX8_told 37 = .ok (.bipush 6, 2) := by decide +kernel
theorem dX8_told_39 : decode cX8_told 39 = .ok (.bipush 6, 2) := by decide +kernel
theorem dX8_told_41 : decode cX8_told 41 = .ok (.iload_n 1, 1) := by decide +kernel
theorem dX8_told_42 : decode cX8_told 42 = .ok (.imul, 1) := by decide +kernel
theorem dX8_told_43 : decode cX8_told 43 = .ok (.iadd, 1) := by decide +kernel
theorem dX8_told_44 : decode cX8_told 44 = .ok (.iload_n 2, 1) := by decide +kernel
theorem dX8_told_45 : decode cX8_told 45 = .ok (.iadd, 1) := by decide +kernel
theorem dX8_told_46 : decode cX8_told 46 = .ok (.iaload, 1) := by decide +kernel
theorem dX8_told_47 : decode cX8_told 47 = .ok (.ireturn, 1) := by decide +kernel
theorem dX8_told_48 : decode cX8_told 48 = .ok (.iload_n 2, 1) := by decide +kernel
theorem dX8_told_49 : decode cX8_told 49 = .ok (.bipush 6, 2) := by decide +kernel
theorem dX8_told_51 : decode cX8_told 51 = .ok (.if_icmp .ne 17, 3) := by decide +kernel
theorem dX8_told_54 : decode cX8_told 54 = .ok (.aload_n 0, 1) := by decide +kernel
theorem dX8_told_55 : decode cX8_told 55 = .ok (.getfield 7, 3) := by decide +kernel
theorem dX8_told_58 : decode cX8_told 58 = .ok (.iload_n 1, 1) := by decide +kernel
theorem dX8_told_59 : decode cX8_told 59 = .ok (.invokestatic 73, 3) := by decide +kernel
theorem dX8_told_62 : decode cX8_told 62 = .ok (.ifCond .eq 21, 3) := by decide +kernel
theorem dX8_told_65 : decode cX8_told 65 = .ok (.goto 14, 3) := by decide +kernel
theorem dX8_told_68 : decode cX8_told 68 = .ok (.aload_n 0, 1) := by decide +kernel
theorem dX8_told_69 : decode cX8_told 69 = .ok (.getfield 7, 3) := by decide +kernel
theorem dX8_told_72 : decode cX8_told 72 = .ok (.iload_n 1, 1) := by decide +kernel
theorem dX8_told_73 : decode cX8_told 73 = .ok (.invokestatic 81, 3) := by decide +kernel
theorem dX8_told_76 : decode cX8_told 76 = .ok (.ifCond .eq 7, 3) := by decide +kernel
theorem dX8_told_79 : decode cX8_told 79 = .ok (.iconst 1, 1) := by decide +kernel
theorem dX8_told_80 : decode cX8_told 80 = .ok (.goto 4, 3) := by decide +kernel
theorem dX8_told_83 : decode cX8_told 83 = .ok (.iconst 0, 1) := by decide +kernel
theorem dX8_told_84 : decode cX8_told 84 = .ok (.ireturn, 1) := by decide +kernel
theorem dX8_heardBy_0 : decode cX8_heardBy 0 = .ok (.iload_n 1, 1) := by decide +kernel
theorem dX8_heardBy_1 : decode cX8_heardBy 1 = .ok (.iload_n 2, 1) := by decide +kernel
theorem dX8_heardBy_2 : decode cX8_heardBy 2 = .ok (.if_icmp .ne 17, 3) := by decide +kernel
theorem dX8_heardBy_5 : decode cX8_heardBy 5 = .ok (.aload_n 0, 1) := by decide +kernel
theorem dX8_heardBy_6 : decode cX8_heardBy 6 = .ok (.bipush 6, 2) := by decide +kernel
theorem dX8_heardBy_8 : decode cX8_heardBy 8 = .ok (.bipush 6, 2) := by decide +kernel
theorem dX8_heardBy_10 : decode cX8_heardBy 10 = .ok (.iload_n 1, 1) := by decide +kernel
theorem dX8_heardBy_11 : decode cX8_heardBy 11 = .ok (.imul, 1) := by decide +kernel
theorem dX8_heardBy_12 : decode cX8_heardBy 12 = .ok (.iadd, 1) := by decide +kernel
theorem dX8_heardBy_13 : decode cX8_heardBy 13 = .ok (.iconst 1, 1) := by decide +kernel
theorem dX8_heardBy_14 : decode cX8_heardBy 14 = .ok (.iadd, 1) := by decide +kernel
theorem dX8_heardBy_15 : decode cX8_heardBy 15 = .ok (.iaload, 1) := by decide +kernel
theorem dX8_heardBy_16 : decode cX8_heardBy 16 = .ok (.goto 15, 3) := by decide +kernel
theorem dX8_heardBy_19 : decode cX8_heardBy 19 = .ok (.aload_n 0, 1) := by decide +kernel
theorem dX8_heardBy_20 : decode cX8_heardBy 20 = .ok (.sipush 141, 3) := by decide +kernel
theorem dX8_heardBy_23 : decode cX8_heardBy 23 = .ok (.bipush 9, 2) := by decide +kernel
theorem dX8_heardBy_25 : decode cX8_heardBy 25 = .ok (.iload_n 1, 1) := by decide +kernel
theorem dX8_heardBy_26 : decode cX8_heardBy 26 = .ok (.imul, 1) := by decide +kernel
theorem dX8_heardBy_27 : decode cX8_heardBy 27 = .ok (.iadd, 1) := by decide +kernel
theorem dX8_heardBy_28 : decode cX8_heardBy 28 = .ok (.iload_n 2, 1) := by decide +kernel
theorem dX8_heardBy_29 : decode cX8_heardBy 29 = .ok (.iadd, 1) := by decide +kernel
theorem dX8_heardBy_30 : decode cX8_heardBy 30 = .ok (.iaload, 1) := by decide +kernel
theorem dX8_heardBy_31 : decode cX8_heardBy 31 = .ok (.ireturn, 1) := by decide +kernel
theorem dX8_heard_0 : decode cX8_heard 0 = .ok (.aload_n 0, 1) := by decide +kernel
theorem dX8_heard_1 : decode cX8_heard 1 = .ok (.iconst 0, 1) := by decide +kernel
theorem dX8_heard_2 : decode cX8_heard 2 = .ok (.putfield 48, 3) := by decide +kernel
theorem dX8_heard_5 : decode cX8_heard 5 = .ok (.aload_n 0, 1) := by decide +kernel
theorem dX8_heard_6 : decode cX8_heard 6 = .ok (.iload_n 1, 1) := by decide +kernel
theorem dX8_heard_7 : decode cX8_heard 7 = .ok (.invokevirtual 65, 3) := by decide +kernel
theorem dX8_heard_10 : decode cX8_heard 10 = .ok (.ifCond .eq 23, 3) := by decide +kernel
theorem dX8_heard_13 : decode cX8_heard 13 = .ok (.aload_n 0, 1) := by decide +kernel
theorem dX8_heard_14 : decode cX8_heard 14 = .ok (.iload_n 2, 1) := by decide +kernel
theorem dX8_heard_15 : decode cX8_heard 15 = .ok (.invokevirtual 65, 3) := by decide +kernel
theorem dX8_heard_18 : decode cX8_heard 18 = .ok (.ifCond .eq 15, 3) := by decide +kernel
theorem dX8_heard_21 : decode cX8_heard 21 = .ok (.aload_n 0, 1) := by decide +kernel
theorem dX8_heard_22 : decode cX8_heard 22 = .ok (.getfield 7, 3) := by decide +kernel
theorem dX8_heard_25 : decode cX8_heard 25 = .ok (.iload_n 1, 1) := by decide +kernel
theorem dX8_heard_26 : decode cX8_heard 26 = .ok (.iload_n 2, 1) := by decide +kernel
theorem dX8_heard_27 : decode cX8_heard 27 = .ok (.invokestatic 84, 3) := by decide +kernel
theorem dX8_heard_30 : decode cX8_heard 30 = .ok (.goto 4, 3) := by decide +kernel
theorem dX8_heard_33 : decode cX8_heard 33 = .ok (.iconst (-1), 1) := by decide +kernel
theorem dX8_heard_34 : decode cX8_heard 34 = .ok (.ireturn, 1) := by decide +kernel
theorem dX8_countBy_0 : decode cX8_countBy 0 = .ok (.iconst 0, 1) := by decide +kernel
theorem dX8_countBy_1 : decode cX8_countBy 1 = .ok (.istore_n 3, 1) := by decide +kernel
theorem dX8_countBy_2 : decode cX8_countBy 2 = .ok (.iconst 0, 1) := by decide +kernel
theorem dX8_countBy_3 : decode cX8_countBy 3 = .ok (.istore 4, 2) := by decide +kernel
theorem dX8_countBy_5 : decode cX8_countBy 5 = .ok (.iload 4, 2) := by decide +kernel
theorem dX8_countBy_7 : decode cX8_countBy 7 = .ok (.aload_n 0, 1) := by decide +kernel
theorem dX8_countBy_8 : decode cX8_countBy 8 = .ok (.iconst 0, 1) := by decide +kernel
theorem dX8_countBy_9 : decode cX8_countBy 9 = .ok (.iaload, 1) := by decide +kernel
theorem dX8_countBy_10 : decode cX8_countBy 10 = .ok (.if_icmp .ge 46, 3) := by decide +kernel
theorem dX8_countBy_13 : decode cX8_countBy 13 = .ok (.aload_n 0, 1) := by decide +kernel
theorem dX8_countBy_14 : decode cX8_countBy 14 = .ok (.iload_n 1, 1) := by decide +kernel
theorem dX8_countBy_15 : decode cX8_countBy 15 = .ok (.iload 4, 2) := by decide +kernel
theorem dX8_countBy_17 : decode cX8_countBy 17 = .ok (.invokestatic 84, 3) := by decide +kernel
theorem dX8_countBy_20 : decode cX8_countBy 20 = .ok (.istore 5, 2) := by decide +kernel
theorem dX8_countBy_22 : decode cX8_countBy 22 = .ok (.iload_n 3, 1) := by decide +kernel
theorem dX8_countBy_23 : decode cX8_countBy 23 = .ok (.iload_n 2, 1) := by decide +kernel
theorem dX8_countBy_24 : decode cX8_countBy 24 = .ok (.iconst 2, 1) := by decide +kernel
theorem dX8_countBy_25 : decode cX8_countBy 25 = .ok (.if_icmp .ne 12, 3) := by decide +kernel
theorem dX8_countBy_28 : decode cX8_countBy 28 = .ok (.iload 5, 2) := by decide +kernel
theorem dX8_countBy_30 : decode cX8_countBy 30 = .ok (.iconst 2, 1) := by decide +kernel
theorem dX8_countBy_31 : decode cX8_countBy 31 = .ok (.if_icmp .ge 16, 3) := by decide +kernel
theorem dX8_countBy_34 : decode cX8_countBy 34 = .ok (.goto 9, 3) := by decide +kernel
theorem dX8_countBy_37 : decode cX8_countBy 37 = .ok (.iload 5, 2) := by decide +kernel
theorem dX8_countBy_39 : decode cX8_countBy 39 = .ok (.iload_n 2, 1) := by decide +kernel
theorem dX8_countBy_40 : decode cX8_countBy 40 = .ok (.if_icmp .ne 7, 3) := by decide +kernel
theorem dX8_countBy_43 : decode cX8_countBy 43 = .ok (.iconst 1, 1) := by decide +kernel
theorem dX8_countBy_44 : decode cX8_countBy 44 = .ok (.goto 4, 3) := by decide +kernel
theorem dX8_countBy_47 : decode cX8_countBy 47 = .ok (.iconst 0, 1) := by decide +kernel
theorem dX8_countBy_48 : decode cX8_countBy 48 = .ok (.iadd, 1) := by decide +kernel
theorem dX8_countBy_49 : decode cX8_countBy 49 = .ok (.istore_n 3, 1) := by decide +kernel
theorem dX8_countBy_50 : decode cX8_countBy 50 = .ok (.iinc 4 1, 3) := by decide +kernel
theorem dX8_countBy_53 : decode cX8_countBy 53 = .ok (.goto (-48), 3) := by decide +kernel
theorem dX8_countBy_56 : decode cX8_countBy 56 = .ok (.iload_n 3, 1) := by decide +kernel
theorem dX8_countBy_57 : decode cX8_countBy 57 = .ok (.ireturn, 1) := by decide +kernel
theorem dX8_counts_0 : decode cX8_counts 0 = .ok (.aload_n 0, 1) := by decide +kernel
theorem dX8_counts_1 : decode cX8_counts 1 = .ok (.iconst 0, 1) := by decide +kernel
theorem dX8_counts_2 : decode cX8_counts 2 = .ok (.putfield 48, 3) := by decide +kernel
theorem dX8_counts_5 : decode cX8_counts 5 = .ok (.aload_n 0, 1) := by decide +kernel
theorem dX8_counts_6 : decode cX8_counts 6 = .ok (.iload_n 1, 1) := by decide +kernel
theorem dX8_counts_7 : decode cX8_counts 7 = .ok (.invokevirtual 65, 3) := by decide +kernel
theorem dX8_counts_10 : decode cX8_counts 10 = .ok (.ifCond .eq 27, 3) := by decide +kernel
theorem dX8_counts_13 : decode cX8_counts 13 = .ok (.iload_n 2, 1) := by decide +kernel
theorem dX8_counts_14 : decode cX8_counts 14 = .ok (.i2l, 1) := by decide +kernel
theorem dX8_counts_15 : decode cX8_counts 15 = .ok (.lconst 0, 1) := by decide +kernel
theorem dX8_counts_16 : decode cX8_counts 16 = .ok (.ldc2_w 88, 3) := by decide +kernel
theorem dX8_counts_19 : decode cX8_counts 19 = .ok (.invokestatic 51, 3) := by decide +kernel
theorem dX8_counts_22 : decode cX8_counts 22 = .ok (.ifCond .eq 15, 3) := by decide +kernel
theorem dX8_counts_25 : decode cX8_counts 25 = .ok (.aload_n 0, 1) := by decide +kernel
theorem dX8_counts_26 : decode cX8_counts 26 = .ok (.getfield 7, 3) := by decide +kernel
theorem dX8_counts_29 : decode cX8_counts 29 = .ok (.iload_n 1, 1) := by decide +kernel
theorem dX8_counts_30 : decode cX8_counts 30 = .ok (.iload_n 2, 1) := by decide +kernel
theorem dX8_counts_31 : decode cX8_counts 31 = .ok (.invokestatic 90, 3) := by decide +kernel
theorem dX8_counts_34 : decode cX8_counts 34 = .ok (.goto 4, 3) := by decide +kernel
theorem dX8_counts_37 : decode cX8_counts 37 = .ok (.iconst (-1), 1) := by decide +kernel
theorem dX8_counts_38 : decode cX8_counts 38 = .ok (.ireturn, 1) := by decide +kernel
theorem dX8_due_0 : decode cX8_due 0 = .ok (.aload_n 0, 1) := by decide +kernel
theorem dX8_due_1 : decode cX8_due 1 = .ok (.iconst 0, 1) := by decide +kernel
theorem dX8_due_2 : decode cX8_due 2 = .ok (.putfield 48, 3) := by decide +kernel
theorem dX8_due_5 : decode cX8_due 5 = .ok (.aload_n 0, 1) := by decide +kernel
theorem dX8_due_6 : decode cX8_due 6 = .ok (.iload_n 1, 1) := by decide +kernel
theorem dX8_due_7 : decode cX8_due 7 = .ok (.invokevirtual 65, 3) := by decide +kernel
theorem dX8_due_10 : decode cX8_due 10 = .ok (.ifCond .eq 28, 3) := by decide +kernel
theorem dX8_due_13 : decode cX8_due 13 = .ok (.aload_n 0, 1) := by decide +kernel
theorem dX8_due_14 : decode cX8_due 14 = .ok (.iload_n 2, 1) := by decide +kernel
theorem dX8_due_15 : decode cX8_due 15 = .ok (.invokevirtual 65, 3) := by decide +kernel
theorem dX8_due_18 : decode cX8_due 18 = .ok (.ifCond .eq 20, 3) := by decide +kernel
theorem dX8_due_21 : decode cX8_due 21 = .ok (.iload_n 1, 1) := by decide +kernel
theorem dX8_due_22 : decode cX8_due 22 = .ok (.iload_n 2, 1) := by decide +kernel
theorem dX8_due_23 : decode cX8_due 23 = .ok (.if_icmp .eq 15, 3) := by decide +kernel
theorem dX8_due_26 : decode cX8_due 26 = .ok (.iload_n 3, 1) := by decide +kernel
theorem dX8_due_27 : decode cX8_due 27 = .ok (.i2l, 1) := by decide +kernel
theorem dX8_due_28 : decode cX8_due 28 = .ok (.lconst 0, 1) := by decide +kernel
theorem dX8_due_29 : decode cX8_due 29 = .ok (.ldc2_w 93, 3) := by decide +kernel
theorem dX8_due_32 : decode cX8_due 32 = .ok (.invokestatic 51, 3) := by decide +kernel
theorem dX8_due_35 : decode cX8_due 35 = .ok (.ifCond .ne 5, 3) := by decide +kernel
theorem dX8_due_38 : decode cX8_due 38 = .ok (.iconst (-1), 1) := by decide +kernel
theorem dX8_due_39 : decode cX8_due 39 = .ok (.ireturn, 1) := by decide +kernel
theorem dX8_due_40 : decode cX8_due 40 = .ok (.aload_n 0, 1) := by decide +kernel
theorem dX8_due_41 : decode cX8_due 41 = .ok (.getfield 7, 3) := by decide +kernel
theorem dX8_due_44 : decode cX8_due 44 = .ok (.sipush 222, 3) := by decide +kernel
theorem dX8_due_47 : decode cX8_due 47 = .ok (.bipush 19, 2) := by decide +kernel
theorem dX8_due_49 : decode cX8_due 49 = .ok (.bipush 9, 2) := by decide +kernel
theorem dX8_due_51 : decode cX8_due 51 = .ok (.iload_n 2, 1) := by decide +kernel
theorem dX8_due_52 : decode cX8_due 52 = .ok (.imul, 1) := by decide +kernel
theorem dX8_due_53 : decode cX8_due 53 = .ok (.iload_n 1, 1) := by decide +kernel
theorem dX8_due_54 : decode cX8_due 54 = .ok (.iadd, 1) := by decide +kernel
theorem dX8_due_55 : decode cX8_due 55 = .ok (.imul, 1) := by decide +kernel
theorem dX8_due_56 : decode cX8_due 56 = .ok (.iadd, 1) := by decide +kernel
theorem dX8_due_57 : decode cX8_due 57 = .ok (.aload_n 0, 1) := by decide +kernel
theorem dX8_due_58 : decode cX8_due 58 = .ok (.getfield 7, 3) := by decide +kernel
theorem dX8_due_61 : decode cX8_due 61 = .ok (.iconst 1, 1) := by decide +kernel
theorem dX8_due_62 : decode cX8_due 62 = .ok (.iaload, 1) := by decide +kernel
theorem dX8_due_63 : decode cX8_due 63 = .ok (.iload_n 3, 1) := by decide +kernel
theorem dX8_due_64 : decode cX8_due 64 = .ok (.iadd, 1) := by decide +kernel
theorem dX8_due_65 : decode cX8_due 65 = .ok (.bipush 19, 2) := by decide +kernel
theorem dX8_due_67 : decode cX8_due 67 = .ok (.irem, 1) := by decide +kernel
theorem dX8_due_68 : decode cX8_due 68 = .ok (.iadd, 1) := by decide +kernel
theorem dX8_due_69 : decode cX8_due 69 = .ok (.iaload, 1) := by decide +kernel
theorem dX8_due_70 : decode cX8_due 70 = .ok (.istore 4, 2) := by decide +kernel
theorem dX8_due_72 : decode cX8_due 72 = .ok (.iload 4, 2) := by decide +kernel
theorem dX8_due_74 : decode cX8_due 74 = .ok (.ifCond .ne 7, 3) := by decide +kernel
theorem dX8_due_77 : decode cX8_due 77 = .ok (.iconst 2, 1) := by decide +kernel
theorem dX8_due_78 : decode cX8_due 78 = .ok (.goto 7, 3) := by decide +kernel
theorem dX8_due_81 : decode cX8_due 81 = .ok (.iload 4, 2) := by decide +kernel
theorem dX8_due_83 : decode cX8_due 83 = .ok (.iconst 1, 1) := by decide +kernel
theorem dX8_due_84 : decode cX8_due 84 = .ok (.isub, 1) := by decide +kernel
theorem dX8_due_85 : decode cX8_due 85 = .ok (.ireturn, 1) := by decide +kernel
theorem dX8_rule_0 : decode cX8_rule 0 = .ok (.aload_n 0, 1) := by decide +kernel
theorem dX8_rule_1 : decode cX8_rule 1 = .ok (.iconst 0, 1) := by decide +kernel
theorem dX8_rule_2 : decode cX8_rule 2 = .ok (.putfield 48, 3) := by decide +kernel
theorem dX8_rule_5 : decode cX8_rule 5 = .ok (.iload_n 1, 1) := by decide +kernel
theorem dX8_rule_6 : decode cX8_rule 6 = .ok (.i2l, 1) := by decide +kernel
theorem dX8_rule_7 : decode cX8_rule 7 = .ok (.lconst 0, 1) := by decide +kernel
theorem dX8_rule_8 : decode cX8_rule 8 = .ok (.aload_n 0, 1) := by decide +kernel
theorem dX8_rule_9 : decode cX8_rule 9 = .ok (.getfield 7, 3) := by decide +kernel
theorem dX8_rule_12 : decode cX8_rule 12 = .ok (.iconst 3, 1) := by decide +kernel
theorem dX8_rule_13 : decode cX8_rule 13 = .ok (.iaload, 1) := by decide +kernel
theorem dX8_rule_14 : decode cX8_rule 14 = .ok (.iconst 1, 1) := by decide +kernel
theorem dX8_rule_15 : decode cX8_rule 15 = .ok (.isub, 1) := by decide +kernel
theorem dX8_rule_16 : decode cX8_rule 16 = .ok (.i2l, 1) := by decide +kernel
theorem dX8_rule_17 : decode cX8_rule 17 = .ok (.invokestatic 51, 3) := by decide +kernel
theorem dX8_rule_20 : decode cX8_rule 20 = .ok (.ifCond .eq 32, 3) := by decide +kernel
theorem dX8_rule_23 : decode cX8_rule 23 = .ok (.iload_n 2, 1) := by decide +kernel
theorem dX8_rule_24 : decode cX8_rule 24 = .ok (.i2l, 1) := by decide +kernel
theorem dX8_rule_25 : decode cX8_rule 25 = .ok (.lconst 0, 1) := by decide +kernel
theorem dX8_rule_26 : decode cX8_rule 26 = .ok (.ldc2_w 95, 3) := by decide +kernel
theorem dX8_rule_29 : decode cX8_rule 29 = .ok (.invokestatic 51, 3) := by decide +kernel
theorem dX8_rule_32 : decode cX8_rule 32 = .ok (.ifCond .eq 20, 3) := by decide +kernel
theorem dX8_rule_35 : decode cX8_rule 35 = .ok (.aload_n 0, 1) := by decide +kernel
theorem dX8_rule_36 : decode cX8_rule 36 = .ok (.getfield 7, 3) := by decide +kernel
theorem dX8_rule_39 : decode cX8_rule 39 = .ok (.sipush 1761, 3) := by decide +kernel
theorem dX8_rule_42 : decode cX8_rule 42 = .ok (.iconst 4, 1) := by decide +kernel
theorem dX8_rule_43 : decode cX8_rule 43 = .ok (.iload_n 1, 1) := by decide +kernel
theorem dX8_rule_44 : decode cX8_rule 44 = .ok (.imul, 1) := by decide +kernel
theorem dX8_rule_45 : decode cX8_rule 45 = .ok (.iadd, 1) := by decide +kernel
theorem dX8_rule_46 : decode cX8_rule 46 = .ok (.iload_n 2, 1) := by decide +kernel
theorem dX8_rule_47 : decode cX8_rule 47 = .ok (.iadd, 1) := by decide +kernel
theorem dX8_rule_48 : decode cX8_rule 48 = .ok (.iaload, 1) := by decide +kernel
theorem dX8_rule_49 : decode cX8_rule 49 = .ok (.goto 4, 3) := by decide +kernel
theorem dX8_rule_52 : decode cX8_rule 52 = .ok (.iconst (-1), 1) := by decide +kernel
theorem dX8_rule_53 : decode cX8_rule 53 = .ok (.ireturn, 1) := by decide +kernel
theorem dX8_add_0 : decode cX8_add 0 = .ok (.aload_n 0, 1) := by decide +kernel
theorem dX8_add_1 : decode cX8_add 1 = .ok (.iconst 0, 1) := by decide +kernel
theorem dX8_add_2 : decode cX8_add 2 = .ok (.putfield 48, 3) := by decide +kernel
theorem dX8_add_5 : decode cX8_add 5 = .ok (.iload_n 1, 1) := by decide +kernel
theorem dX8_add_6 : decode cX8_add 6 = .ok (.i2l, 1) := by decide +kernel
theorem dX8_add_7 : decode cX8_add 7 = .ok (.lconst 0, 1) := by decide +kernel
theorem dX8_add_8 : decode cX8_add 8 = .ok (.ldc2_w 88, 3) := by decide +kernel
theorem dX8_add_11 : decode cX8_add 11 = .ok (.invokestatic 51, 3) := by decide +kernel
theorem dX8_add_14 : decode cX8_add 14 = .ok (.ifCond .eq 40, 3) := by decide +kernel
theorem dX8_add_17 : decode cX8_add 17 = .ok (.iload_n 2, 1) := by decide +kernel
theorem dX8_add_18 : decode cX8_add 18 = .ok (.i2l, 1) := by decide +kernel
theorem dX8_add_19 : decode cX8_add 19 = .ok (.lconst 0, 1) := by decide +kernel
theorem dX8_add_20 : decode cX8_add 20 = .ok (.ldc2_w 77, 3) := by decide +kernel
theorem dX8_add_23 : decode cX8_add 23 = .ok (.invokestatic 51, 3) := by decide +kernel
theorem dX8_add_26 : decode cX8_add 26 = .ok (.ifCond .eq 28, 3) := by decide +kernel
theorem dX8_add_29 : decode cX8_add 29 = .ok (.iload_n 3, 1) := by decide +kernel
theorem dX8_add_30 : decode cX8_add 30 = .ok (.i2l, 1) := by decide +kernel
theorem dX8_add_31 : decode cX8_add 31 = .ok (.lconst 0, 1) := by decide +kernel
theorem dX8_add_32 : decode cX8_add 32 = .ok (.ldc2_w 88, 3) := by decide +kernel
theorem dX8_add_35 : decode cX8_add 35 = .ok (.invokestatic 51, 3) := by decide +kernel
theorem dX8_add_38 : decode cX8_add 38 = .ok (.ifCond .eq 16, 3) := by decide +kernel
theorem dX8_add_41 : decode cX8_add 41 = .ok (.iload 4, 2) := by decide +kernel
theorem dX8_add_43 : decode cX8_add 43 = .ok (.i2l, 1) := by decide +kernel
theorem dX8_add_44 : decode cX8_add 44 = .ok (.lconst 0, 1) := by decide +kernel
theorem dX8_add_45 : decode cX8_add 45 = .ok (.ldc2_w 88, 3) := by decide +kernel
theorem dX8_add_48 : decode cX8_add 48 = .ok (.invokestatic 51, 3) := by decide +kernel
theorem dX8_add_51 : decode cX8_add 51 = .ok (.ifCond .ne 5, 3) := by decide +kernel
theorem dX8_add_54 : decode cX8_add 54 = .ok (.iconst (-1), 1) := by decide +kernel
